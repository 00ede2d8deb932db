theorem dX8_init_98 : decode cX8_init 98 = .ok (.aload 5, 2) := by decide +kernel
theorem dX8_init_100 : decode cX8_init 100 = .ok (.putfield 49, 3) := by decide +kernel
theorem dX8_init_103 : decode cX8_init 103 = .ok (.return_, 1) := by decide +kernel
theorem dX8_take_0 : decode cX8_take 0 = .ok (.aload_n 0, 1) := by decide +kernel
theorem dX8_take_1 : decode cX8_take 1 = .ok (.dup, 1) := by decide +kernel
theorem dX8_take_2 : decode cX8_take 2 = .ok (.getfield 53, 3) := by decide +kernel
theorem dX8_take_5 : decode cX8_take 5 = .ok (.iconst 1, 1) := by decide +kernel
theorem dX8_take_6 : decode cX8_take 6 = .ok (.iadd, 1) := by decide +kernel
theorem dX8_take_7 : decode cX8_take 7 = .ok (.putfield 53, 3) := by decide +kernel
theorem dX8_take_10 : decode cX8_take 10 = .ok (.aload_n 0, 1) := by decide +kernel
theorem dX8_take_11 : decode cX8_take 11 = .ok (.getfield 33, 3) := by decide +kernel
theorem dX8_take_14 : decode cX8_take 14 = .ok (.ifCond .eq 7, 3) := by decide +kernel
theorem dX8_take_17 : decode cX8_take 17 = .ok (.iload_n 2, 1) := by decide +kernel
theorem dX8_take_18 : decode cX8_take 18 = .ok (.goto 26, 3) := by decide +kernel
theorem dX8_take_21 : decode cX8_take 21 = .ok (.iload_n 2, 1) := by decide +kernel
theorem dX8_take_22 : decode cX8_take 22 = .ok (.aload_n 0, 1) := by decide +kernel
theorem dX8_take_23 : decode cX8_take 23 = .ok (.getfield 37, 3) := by decide +kernel
theorem dX8_take_26 : decode cX8_take 26 = .ok (.isub, 1) := by decide +kernel
theorem dX8_take_27 : decode cX8_take 27 = .ok (.aload_n 0, 1) := by decide +kernel
theorem dX8_take_28 : decode cX8_take 28 = .ok (.getfield 46, 3) := by decide +kernel
theorem dX8_take_31 : decode cX8_take 31 = .ok (.invokestatic 56, 3) := by decide +kernel
theorem dX8_take_34 : decode cX8_take 34 = .ok (.aload_n 0, 1) := by decide +kernel
theorem dX8_take_35 : decode cX8_take 35 = .ok (.getfield 46, 3) := by decide +kernel
theorem dX8_take_38 : decode cX8_take 38 = .ok (.imul, 1) := by decide +kernel
theorem dX8_take_39 : decode cX8_take 39 = .ok (.aload_n 0, 1) := by decide +kernel
theorem dX8_take_40 : decode cX8_take 40 = .ok (.getfield 46, 3) := by decide +kernel
theorem dX8_take_43 : decode cX8_take 43 = .ok (.iadd, 1) := by decide +kernel
theorem dX8_take_44 : decode cX8_take 44 = .ok (.istore 5, 2) := by decide +kernel
theorem dX8_take_46 : decode cX8_take 46 = .ok (.iload 5, 2) := by decide +kernel
theorem dX8_take_48 : decode cX8_take 48 = .ok (.istore 6, 2) := by decide +kernel
theorem dX8_take_50 : decode cX8_take 50 = .ok (.iload 6, 2) := by decide +kernel
theorem dX8_take_52 : decode cX8_take 52 = .ok (.iload_n 2, 1) := by decide +kernel
theorem dX8_take_53 : decode cX8_take 53 = .ok (.if_icmp .gt 23, 3) := by decide +kernel
theorem dX8_take_56 : decode cX8_take 56 = .ok (.aload_n 0, 1) := by decide +kernel
theorem dX8_take_57 : decode cX8_take 57 = .ok (.iload_n 1, 1) := by decide +kernel
theorem dX8_take_58 : decode cX8_take 58 = .ok (.iload 6, 2) := by decide +kernel
theorem dX8_take_60 : decode cX8_take 60 = .ok (.lload_n 3, 1) := by decide +kernel
theorem dX8_take_61 : decode cX8_take 61 = .ok (.invokevirtual 59, 3) := by decide +kernel
theorem dX8_take_64 : decode cX8_take 64 = .ok (.iload 6, 2) := by decide +kernel
theorem dX8_take_66 : decode cX8_take 66 = .ok (.aload_n 0, 1) := by decide +kernel
theorem dX8_take_67 : decode cX8_take 67 = .ok (.getfield 46, 3) := by decide +kernel
theorem dX8_take_70 : decode cX8_take 70 = .ok (.iadd, 1) := by decide +kernel
theorem dX8_take_71 : decode cX8_take 71 = .ok (.istore 6, 2) := by decide +kernel
theorem dX8_take_73 : decode cX8_take 73 = .ok (.goto (-23), 3) := by decide +kernel
theorem dX8_take_76 : decode cX8_take 76 = .ok (.return_, 1) := by decide +kernel
theorem dX8_rise_0 : decode cX8_rise 0 = .ok (.aload_n 0, 1) := by decide +kernel
theorem dX8_rise_1 : decode cX8_rise 1 = .ok (.iload_n 1, 1) := by decide +kernel
theorem dX8_rise_2 : decode cX8_rise 2 = .ok (.putfield 63, 3) := by decide +kernel
theorem dX8_rise_5 : decode cX8_rise 5 = .ok (.aload_n 0, 1) := by decide +kernel
theorem dX8_rise_6 : decode cX8_rise 6 = .ok (.getfield 22, 3) := by decide +kernel
theorem dX8_rise_9 : decode cX8_rise 9 = .ok (.getfield 66, 3) := by decide +kernel
theorem dX8_rise_12 : decode cX8_rise 12 = .ok (.istore_n 2, 1) := by decide +kernel
theorem dX8_rise_13 : decode cX8_rise 13 = .ok (.iload_n 2, 1) := by decide +kernel
theorem dX8_rise_14 : decode cX8_rise 14 = .ok (.ifCond .le 57, 3) := by decide +kernel
theorem dX8_rise_17 : decode cX8_rise 17 = .ok (.aload_n 0, 1) := by decide +kernel
theorem dX8_rise_18 : decode cX8_rise 18 = .ok (.getfield 22, 3) := by decide +kernel
theorem dX8_rise_21 : decode cX8_rise 21 = .ok (.invokevirtual 69, 3) := by decide +kernel
theorem dX8_rise_24 : decode cX8_rise 24 = .ok (.invokestatic 73, 3) := by decide +kernel
theorem dX8_rise_27 : decode cX8_rise 27 = .ok (.iload_n 1, 1) := by decide +kernel
theorem dX8_rise_28 : decode cX8_rise 28 = .ok (.if_icmp .gt 43, 3) := by decide +kernel
theorem dX8_rise_31 : decode cX8_rise 31 = .ok (.aload_n 0, 1) := by decide +kernel
theorem dX8_rise_32 : decode cX8_rise 32 = .ok (.getfield 22, 3) := by decide +kernel
theorem dX8_rise_35 : decode cX8_rise 35 = .ok (.invokevirtual 79, 3) := by decide +kernel
theorem dX8_rise_38 : decode cX8_rise 38 = .ok (.lstore_n 3, 1) := by decide +kernel
theorem dX8_rise_39 : decode cX8_rise 39 = .ok (.aload_n 0, 1) := by decide +kernel
theorem dX8_rise_40 : decode cX8_rise 40 = .ok (.lload_n 3, 1) := by decide +kernel
theorem dX8_rise_41 : decode cX8_rise 41 = .ok (.invokevirtual 82, 3) := by decide +kernel
theorem dX8_rise_44 : decode cX8_rise 44 = .ok (.astore 5, 2) := by decide +kernel
theorem dX8_rise_46 : decode cX8_rise 46 = .ok (.aload 5, 2) := by decide +kernel
theorem dX8_rise_48 : decode cX8_rise 48 = .ok (.ifnull 17, 3) := by decide +kernel
theorem dX8_rise_51 : decode cX8_rise 51 = .ok (.aload_n 0, 1) := by decide +kernel
theorem dX8_rise_52 : decode cX8_rise 52 = .ok (.aload 5, 2) := by decide +kernel
theorem dX8_rise_54 : decode cX8_rise 54 = .ok (.invokevirtual 86, 3) := by decide +kernel
theorem dX8_rise_57 : decode cX8_rise 57 = .ok (.aload_n 0, 1) := by decide +kernel
theorem dX8_rise_58 : decode cX8_rise 58 = .ok (.getfield 26, 3) := by decide +kernel
theorem dX8_rise_61 : decode cX8_rise 61 = .ok (.lload_n 3, 1) := by decide +kernel
theorem dX8_rise_62 : decode cX8_rise 62 = .ok (.invokevirtual 90, 3) := by decide +kernel
theorem dX8_rise_65 : decode cX8_rise 65 = .ok (.iinc 2 (-1), 3) := by decide +kernel
theorem dX8_rise_68 : decode cX8_rise 68 = .ok (.goto (-55), 3) := by decide +kernel
theorem dX8_rise_71 : decode cX8_rise 71 = .ok (.aload_n 0, 1) := by decide +kernel
theorem dX8_rise_72 : decode cX8_rise 72 = .ok (.getfield 33, 3) := by decide +kernel
theorem dX8_rise_75 : decode cX8_rise 75 = .ok (.ifCond .eq 17, 3) := by decide +kernel
theorem dX8_rise_78 : decode cX8_rise 78 = .ok (.aload_n 0, 1) := by decide +kernel
theorem dX8_rise_79 : decode cX8_rise 79 = .ok (.getfield 94, 3) := by decide +kernel
theorem dX8_rise_82 : decode cX8_rise 82 = .ok (.aload_n 0, 1) := by decide +kernel
theorem dX8_rise_83 : decode cX8_rise 83 = .ok (.getfield 37, 3) := by decide +kernel
theorem dX8_rise_86 : decode cX8_rise 86 = .ok (.iadd, 1) := by decide +kernel
theorem dX8_rise_87 : decode cX8_rise 87 = .ok (.iconst 1, 1) := by decide +kernel
theorem dX8_rise_88 : decode cX8_rise 88 = .ok (.isub, 1) := by decide +kernel
theorem dX8_rise_89 : decode cX8_rise 89 = .ok (.goto 7, 3) := by decide +kernel
theorem dX8_rise_92 : decode cX8_rise 92 = .ok (.aload_n 0, 1) := by decide +kernel
theorem dX8_rise_93 : decode cX8_rise 93 = .ok (.getfield 94, 3) := by decide +kernel
theorem dX8_rise_96 : decode cX8_rise 96 = .ok (.istore_n 2, 1) := by decide +kernel
theorem dX8_rise_97 : decode cX8_rise 97 = .ok (.aload_n 0, 1) := by decide +kernel
theorem dX8_rise_98 : decode cX8_rise 98 = .ok (.getfield 26, 3) := by decide +kernel
theorem dX8_rise_101 : decode cX8_rise 101 = .ok (.getfield 66, 3) := by decide +kernel
theorem dX8_rise_104 : decode cX8_rise 104 = .ok (.istore_n 3, 1) := by decide +kernel
theorem dX8_rise_105 : decode cX8_rise 105 = .ok (.iload_n 3, 1) := by decide +kernel
theorem dX8_rise_106 : decode cX8_rise 106 = .ok (.ifCond .le 67, 3) := by decide +kernel
theorem dX8_rise_109 : decode cX8_rise 109 = .ok (.aload_n 0, 1) := by decide +kernel
theorem dX8_rise_110 : decode cX8_rise 110 = .ok (.getfield 26, 3) := by decide +kernel
theorem dX8_rise_113 : decode cX8_rise 113 = .ok (.invokevirtual 69, 3) := by decide +kernel
theorem dX8_rise_116 : decode cX8_rise 116 = .ok (.invokestatic 73, 3) := by decide +kernel
theorem dX8_rise_119 : decode cX8_rise 119 = .ok (.iload_n 2, 1) := by decide +kernel
theorem dX8_rise_120 : decode cX8_rise 120 = .ok (.iadd, 1) := by decide +kernel
theorem dX8_rise_121 : decode cX8_rise 121 = .ok (.iload_n 1, 1) := by decide +kernel
theorem dX8_rise_122 : decode cX8_rise 122 = .ok (.if_icmp .gt 51, 3) := by decide +kernel
theorem dX8_rise_125 : decode cX8_rise 125 = .ok (.aload_n 0, 1) := by decide +kernel
theorem dX8_rise_126 : decode cX8_rise 126 = .ok (.aload_n 0, 1) := by decide +kernel
theorem dX8_rise_127 : decode cX8_rise 127 = .ok (.getfield 26, 3) := by decide +kernel
theorem dX8_rise_130 : decode cX8_rise 130 = .ok (.invokevirtual 79, 3) := by decide +kernel
theorem dX8_rise_133 : decode cX8_rise 133 = .ok (.invokevirtual 82, 3) := by decide +kernel
theorem dX8_rise_136 : decode cX8_rise 136 = .ok (.astore 4, 2) := by decide +kernel
theorem dX8_rise_138 : decode cX8_rise 138 = .ok (.aload 4, 2) := by decide +kernel
theorem dX8_rise_140 : decode cX8_rise 140 = .ok (.ifnull 27, 3) := by decide +kernel
theorem dX8_rise_143 : decode cX8_rise 143 = .ok (.aload_n 0, 1) := by decide +kernel
theorem dX8_rise_144 : decode cX8_rise 144 = .ok (.dup, 1) := by decide +kernel
theorem dX8_rise_145 : decode cX8_rise 145 = .ok (.getfield 97, 3) := by decide +kernel
theorem dX8_rise_148 : decode cX8_rise 148 = .ok (.iconst 1, 1) := by decide +kernel
theorem dX8_rise_149 : decode cX8_rise 149 = .ok (.isub, 1) := by decide +kernel
theorem dX8_rise_150 : decode cX8_rise 150 = .ok (.putfield 97, 3) := by decide +kernel
theorem dX8_rise_153 : decode cX8_rise 153 = .ok (.aload_n 0, 1) := by decide +kernel
theorem dX8_rise_154 : decode cX8_rise 154 = .ok (.dup, 1) := by decide +kernel
theorem dX8_rise_155 : decode cX8_rise 155 = .ok (.getfield 100, 3) := by decide +kernel
theorem dX8_rise_158 : decode cX8_rise 158 = .ok (.aload 4, 2) := by decide +kernel
theorem dX8_rise_160 : decode cX8_rise 160 = .ok (.getfield 103, 3) := by decide +kernel
theorem dX8_rise_163 : decode cX8_rise 163 = .ok (.isub, 1) := by decide +kernel
theorem dX8_rise_164 : decode cX8_rise 164 = .ok (.putfield 100, 3) := by decide +kernel
theorem dX8_rise_167 : decode cX8_rise 167 = .ok (.iinc 3 (-1), 3) := by decide +kernel
theorem dX8_rise_170 : decode cX8_rise 170 = .ok (.goto (-65), 3) := by decide +kernel
theorem dX8_rise_173 : decode cX8_rise 173 = .ok (.return_, 1) := by decide +kernel
theorem dX8_rowLeft_0 : decode cX8_rowLeft 0 = .ok (.iload_n 1, 1) := by decide +kernel
theorem dX8_rowLeft_1 : decode cX8_rowLeft 1 = .ok (.ifCond .ge 5, 3) := by decide +kernel
theorem dX8_rowLeft_4 : decode cX8_rowLeft 4 = .ok (.iconst (-1), 1) := by decide +kernel
theorem dX8_rowLeft_5 : decode cX8_rowLeft 5 = .ok (.ireturn, 1) := by decide +kernel
theorem dX8_rowLeft_6 : decode cX8_rowLeft 6 = .ok (.iload_n 1, 1) := by decide +kernel
theorem dX8_rowLeft_7 : decode cX8_rowLeft 7 = .ok (.istore_n 2, 1) := by decide +kernel
theorem dX8_rowLeft_8 : decode cX8_rowLeft 8 = .ok (.aload_n 0, 1) := by decide +kernel
theorem dX8_rowLeft_9 : decode cX8_rowLeft 9 = .ok (.getfield 11, 3) := by decide +kernel
theorem dX8_rowLeft_12 : decode cX8_rowLeft 12 = .ok (.astore_n 3, 1) := by decide +kernel
theorem dX8_rowLeft_13 : decode cX8_rowLeft 13 = .ok (.aload_n 3, 1) := by decide +kernel
theorem dX8_rowLeft_14 : decode cX8_rowLeft 14 = .ok (.arraylength, 1) := by decide +kernel
theorem dX8_rowLeft_15 : decode cX8_rowLeft 15 = .ok (.istore 4, 2) := by decide +kernel
theorem dX8_rowLeft_17 : decode cX8_rowLeft 17 = .ok (.iconst 0, 1) := by decide +kernel
theorem dX8_rowLeft_18 : decode cX8_rowLeft 18 = .ok (.istore 5, 2) := by decide +kernel
theorem dX8_rowLeft_20 : decode cX8_rowLeft 20 = .ok (.iload 5, 2) := by decide +kernel
theorem dX8_rowLeft_22 : decode cX8_rowLeft 22 = .ok (.iload 4, 2) := by decide +kernel
theorem dX8_rowLeft_24 : decode cX8_rowLeft 24 = .ok (.if_icmp .ge 49, 3) := by decide +kernel
theorem dX8_rowLeft_27 : decode cX8_rowLeft 27 = .ok (.aload_n 3, 1) := by decide +kernel
theorem dX8_rowLeft_28 : decode cX8_rowLeft 28 = .ok (.iload 5, 2) := by decide +kernel
theorem dX8_rowLeft_30 : decode cX8_rowLeft 30 = .ok (.aaload, 1) := by decide +kernel
theorem dX8_rowLeft_31 : decode cX8_rowLeft 31 = .ok (.astore 6, 2) := by decide +kernel
theorem dX8_rowLeft_33 : decode cX8_rowLeft 33 = .ok (.aload 6, 2) := by decide +kernel
theorem dX8_rowLeft_35 : decode cX8_rowLeft 35 = .ok (.ifnonnull 7, 3) := by decide +kernel
theorem dX8_rowLeft_38 : decode cX8_rowLeft 38 = .ok (.iconst 0, 1) := by decide +kernel
theorem dX8_rowLeft_39 : decode cX8_rowLeft 39 = .ok (.goto 8, 3) := by decide +kernel
theorem dX8_rowLeft_42 : decode cX8_rowLeft 42 = .ok (.aload 6, 2) := by decide +kernel
theorem dX8_rowLeft_44 : decode cX8_rowLeft 44 = .ok (.getfield 108, 3) := by decide +kernel
theorem dX8_rowLeft_47 : decode cX8_rowLeft 47 = .ok (.istore 7, 2) := by decide +kernel
theorem dX8_rowLeft_49 : decode cX8_rowLeft 49 = .ok (.iload_n 2, 1) := by decide +kernel
theorem dX8_rowLeft_50 : decode cX8_rowLeft 50 = .ok (.iload 7, 2) := by decide +kernel
theorem dX8_rowLeft_52 : decode cX8_rowLeft 52 = .ok (.if_icmp .ge 10, 3) := by decide +kernel
theorem dX8_rowLeft_55 : decode cX8_rowLeft 55 = .ok (.aload 6, 2) := by decide +kernel
theorem dX8_rowLeft_57 : decode cX8_rowLeft 57 = .ok (.iload_n 2, 1) := by decide +kernel
theorem dX8_rowLeft_58 : decode cX8_rowLeft 58 = .ok (.invokevirtual 111, 3) := by decide +kernel
theorem dX8_rowLeft_61 : decode cX8_rowLeft 61 = .ok (.ireturn, 1) := by decide +kernel
theorem dX8_rowLeft_62 : decode cX8_rowLeft 62 = .ok (.iload_n 2, 1) := by decide +kernel
theorem dX8_rowLeft_63 : decode cX8_rowLeft 63 = .ok (.iload 7, 2) := by decide +kernel
theorem dX8_rowLeft_65 : decode cX8_rowLeft 65 = .ok (.isub, 1) := by decide +kernel
theorem dX8_rowLeft_66 : decode cX8_rowLeft 66 = .ok (.istore_n 2, 1) := by decide +kernel
theorem dX8_rowLeft_67 : decode cX8_rowLeft 67 = .ok (.iinc 5 1, 3) := by decide +kernel
theorem dX8_rowLeft_70 : decode cX8_rowLeft 70 = .ok (.goto (-50), 3) := by decide +kernel
theorem dX8_rowLeft_73 : decode cX8_rowLeft 73 = .ok (.iconst (-1), 1) := by decide +kernel
theorem dX8_rowLeft_74 : decode cX8_rowLeft 74 = .ok (.ireturn, 1) := by decide +kernel
theorem dX8_wrongRows_0 : decode cX8_wrongRows 0 = .ok (.iconst 0, 1) := by decide +kernel
theorem dX8_wrongRows_1 : decode cX8_wrongRows 1 = .ok (.istore_n 1, 1) := by decide +kernel
theorem dX8_wrongRows_2 : decode cX8_wrongRows 2 = .ok (.aload_n 0, 1) := by decide +kernel
theorem dX8_wrongRows_3 : decode cX8_wrongRows 3 = .ok (.getfield 11, 3) := by decide +kernel
theorem dX8_wrongRows_6 : decode cX8_wrongRows 6 = .ok (.astore_n 2, 1) := by decide +kernel
theorem dX8_wrongRows_7 : decode cX8_wrongRows 7 = .ok (.aload_n 2, 1) := by decide +kernel
theorem dX8_wrongRows_8 : decode cX8_wrongRows 8 = .ok (.arraylength, 1) := by decide +kernel
theorem dX8_wrongRows_9 : decode cX8_wrongRows 9 = .ok (.istore_n 3, 1) := by decide +kernel
theorem dX8_wrongRows_10 : decode cX8_wrongRows 10 = .ok (.iconst 0, 1) := by decide +kernel
theorem dX8_wrongRows_11 : decode cX8_wrongRows 11 = .ok (.istore 4, 2) := by decide +kernel
theorem dX8_wrongRows_13 : decode cX8_wrongRows 13 = .ok (.iload 4, 2) := by decide +kernel
theorem dX8_wrongRows_15 : decode cX8_wrongRows 15 = .ok (.iload_n 3, 1) := by decide +kernel
theorem dX8_wrongRows_16 : decode cX8_wrongRows 16 = .ok (.if_icmp .ge 113, 3) := by decide +kernel
theorem dX8_wrongRows_19 : decode cX8_wrongRows 19 = .ok (.aload_n 2, 1) := by decide +kernel
theorem dX8_wrongRows_20 : decode cX8_wrongRows 20 = .ok (.iload 4, 2) := by decide +kernel
theorem dX8_wrongRows_22 : decode cX8_wrongRows 22 = .ok (.aaload, 1) := by decide +kernel
theorem dX8_wrongRows_23 : decode cX8_wrongRows 23 = .ok (.astore 5, 2) := by decide +kernel
theorem dX8_wrongRows_25 : decode cX8_wrongRows 25 = .ok (.aload 5, 2) := by decide +kernel
theorem dX8_wrongRows_27 : decode cX8_wrongRows 27 = .ok (.ifnonnull 7, 3) := by decide +kernel
theorem dX8_wrongRows_30 : decode cX8_wrongRows 30 = .ok (.iconst 0, 1) := by decide +kernel
theorem dX8_wrongRows_31 : decode cX8_wrongRows 31 = .ok (.goto 11, 3) := by decide +kernel
theorem dX8_wrongRows_34 : decode cX8_wrongRows 34 = .ok (.aload 5, 2) := by decide +kernel
theorem dX8_wrongRows_36 : decode cX8_wrongRows 36 = .ok (.getfield 115, 3) := by decide +kernel
theorem dX8_wrongRows_39 : decode cX8_wrongRows 39 = .ok (.invokevirtual 119, 3) := by decide +kernel
theorem dX8_wrongRows_42 : decode cX8_wrongRows 42 = .ok (.istore 6, 2) := by decide +kernel
theorem dX8_wrongRows_44 : decode cX8_wrongRows 44 = .ok (.iconst 0, 1) := by decide +kernel
theorem dX8_wrongRows_45 : decode cX8_wrongRows 45 = .ok (.istore 7, 2) := by decide +kernel
theorem dX8_wrongRows_47 : decode cX8_wrongRows 47 = .ok (.iload 7, 2) := by decide +kernel
theorem dX8_wrongRows_49 : decode cX8_wrongRows 49 = .ok (.iload 6, 2) := by decide +kernel
theorem dX8_wrongRows_51 : decode cX8_wrongRows 51 = .ok (.if_icmp .ge 72, 3) := by decide +kernel
theorem dX8_wrongRows_54 : decode cX8_wrongRows 54 = .ok (.aload 5, 2) := by decide +kernel
theorem dX8_wrongRows_56 : decode cX8_wrongRows 56 = .ok (.iload 7, 2) := by decide +kernel
theorem dX8_wrongRows_58 : decode cX8_wrongRows 58 = .ok (.invokevirtual 124, 3) := by decide +kernel
theorem dX8_wrongRows_61 : decode cX8_wrongRows 61 = .ok (.astore 8, 2) := by decide +kernel
theorem dX8_wrongRows_63 : decode cX8_wrongRows 63 = .ok (.aload 8, 2) := by decide +kernel
theorem dX8_wrongRows_65 : decode cX8_wrongRows 65 = .ok (.ifnull 52, 3) := by decide +kernel
theorem dX8_wrongRows_68 : decode cX8_wrongRows 68 = .ok (.aload 8, 2) := by decide +kernel
theorem dX8_wrongRows_70 : decode cX8_wrongRows 70 = .ok (.getfield 128, 3) := by decide +kernel
theorem dX8_wrongRows_73 : decode cX8_wrongRows 73 = .ok (.aload_n 0, 1) := by decide +kernel
theorem dX8_wrongRows_74 : decode cX8_wrongRows 74 = .ok (.getfield 63, 3) := by decide +kernel
theorem dX8_wrongRows_77 : decode cX8_wrongRows 77 = .ok (.if_icmp .gt 40, 3) := by decide +kernel
theorem dX8_wrongRows_80 : decode cX8_wrongRows 80 = .ok (.aload 8, 2) := by decide +kernel
theorem dX8_wrongRows_82 : decode cX8_wrongRows 82 = .ok (.getfield 131, 3) := by decide +kernel
theorem dX8_wrongRows_85 : decode cX8_wrongRows 85 = .ok (.iconst (-1), 1) := by decide +kernel
theorem dX8_wrongRows_86 : decode cX8_wrongRows 86 = .ok (.if_icmp .eq 28, 3) := by decide +kernel
theorem dX8_wrongRows_89 : decode cX8_wrongRows 89 = .ok (.aload_n 0, 1) := by decide +kernel
theorem dX8_wrongRows_90 : decode cX8_wrongRows 90 = .ok (.getfield 49, 3) := by decide +kernel
theorem dX8_wrongRows_93 : decode cX8_wrongRows 93 = .ok (.aload 8, 2) := by decide +kernel
theorem dX8_wrongRows_95 : decode cX8_wrongRows 95 = .ok (.getfield 131, 3) := by decide +kernel
theorem dX8_wrongRows_98 : decode cX8_wrongRows 98 = .ok (.invokevirtual 134, 3) := by decide +kernel
theorem dX8_wrongRows_101 : decode cX8_wrongRows 101 = .ok (.aload 8, 2) := by decide +kernel
theorem dX8_wrongRows_103 : decode cX8_wrongRows 103 = .ok (.aload_n 0, 1) := by decide +kernel
theorem dX8_wrongRows_104 : decode cX8_wrongRows 104 = .ok (.getfield 140, 3) := by decide +kernel
theorem dX8_wrongRows_107 : decode cX8_wrongRows 107 = .ok (.invokevirtual 143, 3) := by decide +kernel
theorem dX8_wrongRows_110 : decode cX8_wrongRows 110 = .ok (.lcmp, 1) := by decide +kernel
theorem dX8_wrongRows_111 : decode cX8_wrongRows 111 = .ok (.ifCond .eq 6, 3) := by decide +kernel
theorem dX8_wrongRows_114 : decode cX8_wrongRows 114 = .ok (.iinc 1 1, 3) := by decide +kernel
theorem dX8_wrongRows_117 : decode cX8_wrongRows 117 = .ok (.iinc 7 1, 3) := by decide +kernel
theorem dX8_wrongRows_120 : decode cX8_wrongRows 120 = .ok (.goto (-73), 3) := by decide +kernel
theorem dX8_wrongRows_123 : decode cX8_wrongRows 123 = .ok (.iinc 4 1, 3) := by decide +kernel
theorem dX8_wrongRows_126 : decode cX8_wrongRows 126 = .ok (.goto (-113), 3) := by decide +kernel
theorem dX8_wrongRows_129 : decode cX8_wrongRows 129 = .ok (.iload_n 1, 1) := by decide +kernel
theorem dX8_wrongRows_130 : decode cX8_wrongRows 130 = .ok (.ireturn, 1) := by decide +kernel
theorem dX8_enter_0 : decode cX8_enter 0 = .ok (.iload_n 2, 1) := by decide +kernel
theorem dX8_enter_1 : decode cX8_enter 1 = .ok (.aload_n 0, 1) := by decide +kernel
theorem dX8_enter_2 : decode cX8_enter 2 = .ok (.getfield 37, 3) := by decide +kernel
theorem dX8_enter_5 : decode cX8_enter 5 = .ok (.iadd, 1) := by decide +kernel
theorem dX8_enter_6 : decode cX8_enter 6 = .ok (.istore 5, 2) := by decide +kernel
theorem dX8_enter_8 : decode cX8_enter 8 = .ok (.iload 5, 2) := by decide +kernel
theorem dX8_enter_10 : decode cX8_enter 10 = .ok (.aload_n 0, 1) := by decide +kernel
theorem dX8_enter_11 : decode cX8_enter 11 = .ok (.getfield 94, 3) := by decide +kernel
theorem dX8_enter_14 : decode cX8_enter 14 = .ok (.iadd, 1) := by decide +kernel
theorem dX8_enter_15 : decode cX8_enter 15 = .ok (.aload_n 0, 1) := by decide +kernel
theorem dX8_enter_16 : decode cX8_enter 16 = .ok (.getfield 63, 3) := by decide +kernel
theorem dX8_enter_19 : decode cX8_enter 19 = .ok (.if_icmp .gt 14, 3) := by decide +kernel
theorem dX8_enter_22 : decode cX8_enter 22 = .ok (.aload_n 0, 1) := by decide +kernel
theorem dX8_enter_23 : decode cX8_enter 23 = .ok (.dup, 1) := by decide +kernel
theorem dX8_enter_24 : decode cX8_enter 24 = .ok (.getfield 146, 3) := by decide +kernel
theorem dX8_enter_27 : decode cX8_enter 27 = .ok (.iconst 1, 1) := by decide +kernel
theorem dX8_enter_28 : decode cX8_enter 28 = .ok (.iadd, 1) := by decide +kernel
theorem dX8_enter_29 : decode cX8_enter 29 = .ok (.putfield 146, 3) := by decide +kernel
theorem dX8_enter_32 : decode cX8_enter 32 = .ok (.return_, 1) := by decide +kernel
theorem dX8_enter_33 : decode cX8_enter 33 = .ok (.aload_n 0, 1) := by decide +kernel
theorem dX8_enter_34 : decode cX8_enter 34 = .ok (.iload_n 1, 1) := by decide +kernel
theorem dX8_enter_35 : decode cX8_enter 35 = .ok (.invokevirtual 149, 3) := by decide +kernel
theorem dX8_enter_38 : decode cX8_enter 38 = .ok (.astore 6, 2) := by decide +kernel
theorem dX8_enter_40 : decode cX8_enter 40 = .ok (.aload 6, 2) := by decide +kernel
theorem dX8_enter_42 : decode cX8_enter 42 = .ok (.aload_n 0, 1) := by decide +kernel
theorem dX8_enter_43 : decode cX8_enter 43 = .ok (.getfield 33, 3) := by decide +kernel
theorem dX8_enter_46 : decode cX8_enter 46 = .ok (.ifCond .eq 9, 3) := by decide +kernel
theorem dX8_enter_49 : decode cX8_enter 49 = .ok (.iload_n 2, 1) := by decide +kernel
theorem dX8_enter_50 : decode cX8_enter 50 = .ok (.iconst 1, 1) := by decide +kernel
theorem dX8_enter_51 : decode cX8_enter 51 = .ok (.iadd, 1) := by decide +kernel
theorem dX8_enter_52 : decode cX8_enter 52 = .ok (.goto 5, 3) := by decide +kernel
theorem dX8_enter_55 : decode cX8_enter 55 = .ok (.iload 5, 2) := by decide +kernel
theorem dX8_enter_57 : decode cX8_enter 57 = .ok (.invokevirtual 153, 3) := by decide +kernel
theorem dX8_enter_60 : decode cX8_enter 60 = .ok (.istore 7, 2) := by decide +kernel
theorem dX8_enter_62 : decode cX8_enter 62 = .ok (.aload 6, 2) := by decide +kernel
theorem dX8_enter_64 : decode cX8_enter 64 = .ok (.iload 7, 2) := by decide +kernel
theorem dX8_enter_66 : decode cX8_enter 66 = .ok (.invokevirtual 124, 3) := by decide +kernel
theorem dX8_enter_69 : decode cX8_enter 69 = .ok (.astore 8, 2) := by decide +kernel
theorem dX8_enter_71 : decode cX8_enter 71 = .ok (.iconst 0, 1) := by decide +kernel
theorem dX8_enter_72 : decode cX8_enter 72 = .ok (.istore 9, 2) := by decide +kernel
theorem dX8_enter_74 : decode cX8_enter 74 = .ok (.aload 8, 2) := by decide +kernel
theorem dX8_enter_76 : decode cX8_enter 76 = .ok (.ifnull 26, 3) := by decide +kernel
theorem dX8_enter_79 : decode cX8_enter 79 = .ok (.aload 8, 2) := by decide +kernel
theorem dX8_enter_81 : decode cX8_enter 81 = .ok (.getfield 156, 3) := by decide +kernel
theorem dX8_enter_84 : decode cX8_enter 84 = .ok (.aload_n 0, 1) := by decide +kernel
theorem dX8_enter_85 : decode cX8_enter 85 = .ok (.getfield 33, 3) := by decide +kernel
theorem dX8_enter_88 : decode cX8_enter 88 = .ok (.ifCond .eq 8, 3) := by decide +kernel
theorem dX8_enter_91 : decode cX8_enter 91 = .ok (.iload 5, 2) := by decide +kernel
theorem dX8_enter_93 : decode cX8_enter 93 = .ok (.goto 6, 3) := by decide +kernel
theorem dX8_enter_96 : decode cX8_enter 96 = .ok (.iload_n 2, 1) := by decide +kernel
theorem dX8_enter_97 : decode cX8_enter 97 = .ok (.iconst 1, 1) := by decide +kernel
theorem dX8_enter_98 : decode cX8_enter 98 = .ok (.iadd, 1) := by decide +kernel
theorem dX8_enter_99 : decode cX8_enter 99 = .ok (.if_icmp .lt 44, 3) := by decide +kernel
theorem dX8_enter_102 : decode cX8_enter 102 = .ok (.new 104, 3) := by decide +kernel
theorem dX8_enter_105 : decode cX8_enter 105 = .ok (.dup, 1) := by decide +kernel
theorem dX8_enter_106 : decode cX8_enter 106 = .ok (.iload_n 1, 1) := by decide +kernel
theorem dX8_enter_107 : decode cX8_enter 107 = .ok (.iload_n 2, 1) := by decide +kernel
theorem dX8_enter_108 : decode cX8_enter 108 = .ok (.iload 5, 2) := by decide +kernel
theorem dX8_enter_110 : decode cX8_enter 110 = .ok (.invokespecial 159, 3) := by decide +kernel
theorem dX8_enter_113 : decode cX8_enter 113 = .ok (.astore 8, 2) := by decide +kernel
theorem dX8_enter_115 : decode cX8_enter 115 = .ok (.aload 6, 2) := by decide +kernel
theorem dX8_enter_117 : decode cX8_enter 117 = .ok (.iload 7, 2) := by decide +kernel
theorem dX8_enter_119 : decode cX8_enter 119 = .ok (.aload 8, 2) := by decide +kernel
theorem dX8_enter_121 : decode cX8_enter 121 = .ok (.invokevirtual 162, 3) := by decide +kernel
theorem dX8_enter_124 : decode cX8_enter 124 = .ok (.aload_n 0, 1) := by decide +kernel
theorem dX8_enter_125 : decode cX8_enter 125 = .ok (.dup, 1) := by decide +kernel
theorem dX8_enter_126 : decode cX8_enter 126 = .ok (.getfield 97, 3) := by decide +kernel
theorem dX8_enter_129 : decode cX8_enter 129 = .ok (.iconst 1, 1) := by decide +kernel
theorem dX8_enter_130 : decode cX8_enter 130 = .ok (.iadd, 1) := by decide +kernel
theorem dX8_enter_131 : decode cX8_enter 131 = .ok (.putfield 97, 3) := by decide +kernel
theorem dX8_enter_134 : decode cX8_enter 134 = .ok (.aload_n 0, 1) := by decide +kernel
theorem dX8_enter_135 : decode cX8_enter 135 = .ok (.aload 8, 2) := by decide +kernel
theorem dX8_enter_137 : decode cX8_enter 137 = .ok (.invokevirtual 166, 3) := by decide +kernel
theorem dX8_enter_140 : decode cX8_enter 140 = .ok (.goto 23, 3) := by decide +kernel
theorem dX8_enter_143 : decode cX8_enter 143 = .ok (.aload_n 0, 1) := by decide +kernel
theorem dX8_enter_144 : decode cX8_enter 144 = .ok (.getfield 33, 3) := by decide +kernel
theorem dX8_enter_147 : decode cX8_enter 147 = .ok (.ifCond .eq 16, 3) := by decide +kernel
theorem dX8_enter_150 : decode cX8_enter 150 = .ok (.aload_n 0, 1) := by decide +kernel
theorem dX8_enter_151 : decode cX8_enter 151 = .ok (.aload 6, 2) := by decide +kernel
theorem dX8_enter_153 : decode cX8_enter 153 = .ok (.iload 7, 2) := by decide +kernel
theorem dX8_enter_155 : decode cX8_enter 155 = .ok (.iload_n 2, 1) := by decide +kernel
theorem dX8_enter_156 : decode cX8_enter 156 = .ok (.iload 5, 2) := by decide +kernel
theorem dX8_enter_158 : decode cX8_enter 158 = .ok (.invokevirtual 169, 3) := by decide +kernel
theorem dX8_enter_161 : decode cX8_enter 161 = .ok (.istore 9, 2) := by decide +kernel
theorem dX8_enter_163 : decode cX8_enter 163 = .ok (.aload 8, 2) := by decide +kernel
theorem dX8_enter_165 : decode cX8_enter 165 = .ok (.lload_n 3, 1) := by decide +kernel
theorem dX8_enter_166 : decode cX8_enter 166 = .ok (.aload_n 0, 1) := by decide +kernel
theorem dX8_enter_167 : decode cX8_enter 167 = .ok (.getfield 140, 3) := by decide +kernel
theorem dX8_enter_170 : decode cX8_enter 170 = .ok (.invokevirtual 173, 3) := by decide +kernel
theorem dX8_enter_173 : decode cX8_enter 173 = .ok (.aload_n 0, 1) := by decide +kernel
theorem dX8_enter_174 : decode cX8_enter 174 = .ok (.dup, 1) := by decide +kernel
theorem dX8_enter_175 : decode cX8_enter 175 = .ok (.getfield 100, 3) := by decide +kernel
theorem dX8_enter_178 : decode cX8_enter 178 = .ok (.iconst 1, 1) := by decide +kernel
theorem dX8_enter_179 : decode cX8_enter 179 = .ok (.iadd, 1) := by decide +kernel
theorem dX8_enter_180 : decode cX8_enter 180 = .ok (.putfield 100, 3) := by decide +kernel
theorem dX8_enter_183 : decode cX8_enter 183 = .ok (.iload 9, 2) := by decide +kernel
theorem dX8_enter_185 : decode cX8_enter 185 = .ok (.ifCond .ne 35, 3) := by decide +kernel
theorem dX8_enter_188 : decode cX8_enter 188 = .ok (.aload 8, 2) := by decide +kernel
theorem dX8_enter_190 : decode cX8_enter 190 = .ok (.getfield 128, 3) := by decide +kernel
theorem dX8_enter_193 : decode cX8_enter 193 = .ok (.aload_n 0, 1) := by decide +kernel
theorem dX8_enter_194 : decode cX8_enter 194 = .ok (.getfield 63, 3) := by decide +kernel
theorem dX8_enter_197 : decode cX8_enter 197 = .ok (.if_icmp .le 23, 3) := by decide +kernel
theorem dX8_enter_200 : decode cX8_enter 200 = .ok (.aload_n 0, 1) := by decide +kernel
theorem dX8_enter_201 : decode cX8_enter 201 = .ok (.getfield 176, 3) := by decide +kernel
theorem dX8_enter_204 : decode cX8_enter 204 = .ok (.ifCond .le 22, 3) := by decide +kernel
theorem dX8_enter_207 : decode cX8_enter 207 = .ok (.aload 8, 2) := by decide +kernel
theorem dX8_enter_209 : decode cX8_enter 209 = .ok (.getfield 103, 3) := by decide +kernel
theorem dX8_enter_212 : decode cX8_enter 212 = .ok (.aload_n 0, 1) := by decide +kernel
theorem dX8_enter_213 : decode cX8_enter 213 = .ok (.getfield 176, 3) := by decide +kernel
theorem dX8_enter_216 : decode cX8_enter 216 = .ok (.irem, 1) := by decide +kernel
theorem dX8_enter_217 : decode cX8_enter 217 = .ok (.ifCond .ne 9, 3) := by decide +kernel
theorem dX8_enter_220 : decode cX8_enter 220 = .ok (.aload_n 0, 1) := by decide +kernel
theorem dX8_enter_221 : decode cX8_enter 221 = .ok (.aload 8, 2) := by decide +kernel
theorem dX8_enter_223 : decode cX8_enter 223 = .ok (.invokevirtual 86, 3) := by decide +kernel
theorem dX8_enter_226 : decode cX8_enter 226 = .ok (.return_, 1) := by decide +kernel
theorem dX8_join_0 : decode cX8_join 0 = .ok (.aload_n 1, 1) := by decide +kernel
theorem dX8_join_1 : decode cX8_join 1 = .ok (.iload_n 2, 1) := by decide +kernel
theorem dX8_join_2 : decode cX8_join 2 = .ok (.invokevirtual 124, 3) := by decide +kernel
theorem dX8_join_5 : decode cX8_join 5 = .ok (.astore 5, 2) := by decide +kernel
theorem dX8_join_7 : decode cX8_join 7 = .ok (.aload 5, 2) := by decide +kernel
theorem dX8_join_9 : decode cX8_join 9 = .ok (.ifnonnull 5, 3) := by decide +kernel
theorem dX8_join_12 : decode cX8_join 12 = .ok (.iconst 0, 1) := by decide +kernel
theorem dX8_join_13 : decode cX8_join 13 = .ok (.ireturn, 1) := by decide +kernel
theorem dX8_join_14 : decode cX8_join 14 = .ok (.aload 5, 2) := by decide +kernel
theorem dX8_join_16 : decode cX8_join 16 = .ok (.getfield 156, 3) := by decide +kernel
theorem dX8_join_19 : decode cX8_join 19 = .ok (.istore 6, 2) := by decide +kernel
theorem dX8_join_21 : decode cX8_join 21 = .ok (.aload 5, 2) := by decide +kernel
theorem dX8_join_23 : decode cX8_join 23 = .ok (.getfield 128, 3) := by decide +kernel
theorem dX8_join_26 : decode cX8_join 26 = .ok (.istore 7, 2) := by decide +kernel
theorem dX8_join_28 : decode cX8_join 28 = .ok (.aload_n 0, 1) := by decide +kernel
theorem dX8_join_29 : decode cX8_join 29 = .ok (.aload 5, 2) := by decide +kernel
theorem dX8_join_31 : decode cX8_join 31 = .ok (.invokevirtual 179, 3) := by decide +kernel
theorem dX8_join_34 : decode cX8_join 34 = .ok (.istore 8, 2) := by decide +kernel
theorem dX8_join_36 : decode cX8_join 36 = .ok (.aload_n 1, 1) := by decide +kernel
theorem dX8_join_37 : decode cX8_join 37 = .ok (.iload_n 2, 1) := by decide +kernel
theorem dX8_join_38 : decode cX8_join 38 = .ok (.iconst 1, 1) := by decide +kernel
theorem dX8_join_39 : decode cX8_join 39 = .ok (.iadd, 1) := by decide +kernel
theorem dX8_join_40 : decode cX8_join 40 = .ok (.invokevirtual 124, 3) := by decide +kernel
theorem dX8_join_43 : decode cX8_join 43 = .ok (.astore 9, 2) := by decide +kernel
theorem dX8_join_45 : decode cX8_join 45 = .ok (.aload_n 1, 1) := by decide +kernel
theorem dX8_join_46 : decode cX8_join 46 = .ok (.getfield 115, 3) := by decide +kernel
theorem dX8_join_49 : decode cX8_join 49 = .ok (.invokevirtual 119, 3) := by decide +kernel
theorem dX8_join_52 : decode cX8_join 52 = .ok (.istore 10, 2) := by decide +kernel
theorem dX8_join_54 : decode cX8_join 54 = .ok (.iload 10, 2) := by decide +kernel
theorem dX8_join_56 : decode cX8_join 56 = .ok (.ifCond .le 72, 3) := by decide +kernel
theorem dX8_join_59 : decode cX8_join 59 = .ok (.aload 9, 2) := by decide +kernel
theorem dX8_join_61 : decode cX8_join 61 = .ok (.ifnull 67, 3) := by decide +kernel
theorem dX8_join_64 : decode cX8_join 64 = .ok (.aload 9, 2) := by decide +kernel
theorem dX8_join_66 : decode cX8_join 66 = .ok (.getfield 156, 3) := by decide +kernel
theorem dX8_join_69 : decode cX8_join 69 = .ok (.iload 4, 2) := by decide +kernel
theorem dX8_join_71 : decode cX8_join 71 = .ok (.if_icmp .ge 57, 3) := by decide +kernel
theorem dX8_join_74 : decode cX8_join 74 = .ok (.iload 8, 2) := by decide +kernel
theorem dX8_join_76 : decode cX8_join 76 = .ok (.aload_n 0, 1) := by decide +kernel
theorem dX8_join_77 : decode cX8_join 77 = .ok (.aload 9, 2) := by decide +kernel
theorem dX8_join_79 : decode cX8_join 79 = .ok (.invokevirtual 179, 3) := by decide +kernel
theorem dX8_join_82 : decode cX8_join 82 = .ok (.ior, 1) := by decide +kernel
theorem dX8_join_83 : decode cX8_join 83 = .ok (.istore 8, 2) := by decide +kernel
theorem dX8_join_85 : decode cX8_join 85 = .ok (.aload 5, 2) := by decide +kernel
theorem dX8_join_87 : decode cX8_join 87 = .ok (.aload 9, 2) := by decide +kernel
theorem dX8_join_89 : decode cX8_join 89 = .ok (.aload_n 0, 1) := by decide +kernel
theorem dX8_join_90 : decode cX8_join 90 = .ok (.getfield 140, 3) := by decide +kernel
theorem dX8_join_93 : decode cX8_join 93 = .ok (.invokevirtual 183, 3) := by decide +kernel
theorem dX8_join_96 : decode cX8_join 96 = .ok (.aload_n 1, 1) := by decide +kernel
theorem dX8_join_97 : decode cX8_join 97 = .ok (.iload_n 2, 1) := by decide +kernel
theorem dX8_join_98 : decode cX8_join 98 = .ok (.iconst 1, 1) := by decide +kernel
theorem dX8_join_99 : decode cX8_join 99 = .ok (.iadd, 1) := by decide +kernel
theorem dX8_join_100 : decode cX8_join 100 = .ok (.invokevirtual 187, 3) := by decide +kernel
theorem dX8_join_103 : decode cX8_join 103 = .ok (.aload_n 0, 1) := by decide +kernel
theorem dX8_join_104 : decode cX8_join 104 = .ok (.dup, 1) := by decide +kernel
theorem dX8_join_105 : decode cX8_join 105 = .ok (.getfield 97, 3) := by decide +kernel
theorem dX8_join_108 : decode cX8_join 108 = .ok (.iconst 1, 1) := by decide +kernel
theorem dX8_join_109 : decode cX8_join 109 = .ok (.isub, 1) := by decide +kernel
theorem dX8_join_110 : decode cX8_join 110 = .ok (.putfield 97, 3) := by decide +kernel
theorem dX8_join_113 : decode cX8_join 113 = .ok (.aload_n 1, 1) := by decide +kernel
theorem dX8_join_114 : decode cX8_join 114 = .ok (.iload_n 2, 1) := by decide +kernel
theorem dX8_join_115 : decode cX8_join 115 = .ok (.iconst 1, 1) := by decide +kernel
theorem dX8_join_116 : decode cX8_join 116 = .ok (.iadd, 1) := by decide +kernel
theorem dX8_join_117 : decode cX8_join 117 = .ok (.invokevirtual 124, 3) := by decide +kernel
theorem dX8_join_120 : decode cX8_join 120 = .ok (.astore 9, 2) := by decide +kernel
theorem dX8_join_122 : decode cX8_join 122 = .ok (.iinc 10 (-1), 3) := by decide +kernel
theorem dX8_join_125 : decode cX8_join 125 = .ok (.goto (-71), 3) := by decide +kernel
theorem dX8_join_128 : decode cX8_join 128 = .ok (.aload 5, 2) := by decide +kernel
theorem dX8_join_130 : decode cX8_join 130 = .ok (.iload_n 3, 1) := by decide +kernel
theorem dX8_join_131 : decode cX8_join 131 = .ok (.iload 4, 2) := by decide +kernel
theorem dX8_join_133 : decode cX8_join 133 = .ok (.invokevirtual 190, 3) := by decide +kernel
theorem dX8_join_136 : decode cX8_join 136 = .ok (.aload 5, 2) := by decide +kernel
theorem dX8_join_138 : decode cX8_join 138 = .ok (.getfield 156, 3) := by decide +kernel
theorem dX8_join_141 : decode cX8_join 141 = .ok (.iload 6, 2) := by decide +kernel
theorem dX8_join_143 : decode cX8_join 143 = .ok (.if_icmp .ne 13, 3) := by decide +kernel
theorem dX8_join_146 : decode cX8_join 146 = .ok (.aload 5, 2) := by decide +kernel
theorem dX8_join_148 : decode cX8_join 148 = .ok (.getfield 128, 3) := by decide +kernel
theorem dX8_join_151 : decode cX8_join 151 = .ok (.iload 7, 2) := by decide +kernel
theorem dX8_join_153 : decode cX8_join 153 = .ok (.if_icmp .eq 9, 3) := by decide +kernel
theorem dX8_join_156 : decode cX8_join 156 = .ok (.aload_n 0, 1) := by decide +kernel
theorem dX8_join_157 : decode cX8_join 157 = .ok (.aload 5, 2) := by decide +kernel
theorem dX8_join_159 : decode cX8_join 159 = .ok (.invokevirtual 166, 3) := by decide +kernel
theorem dX8_join_162 : decode cX8_join 162 = .ok (.iload 8, 2) := by decide +kernel
theorem dX8_join_164 : decode cX8_join 164 = .ok (.ireturn, 1) := by decide +kernel
theorem dX8_await_0 : decode cX8_await 0 = .ok (.aload_n 1, 1) := by decide +kernel
theorem dX8_await_1 : decode cX8_await 1 = .ok (.getfield 194, 3) := by decide +kernel
theorem dX8_await_4 : decode cX8_await 4 = .ok (.aload_n 1, 1) := by decide +kernel
theorem dX8_await_5 : decode cX8_await 5 = .ok (.getfield 156, 3) := by decide +kernel
theorem dX8_await_8 : decode cX8_await 8 = .ok (.aload_n 1, 1) := by decide +kernel
theorem dX8_await_9 : decode cX8_await 9 = .ok (.getfield 128, 3) := by decide +kernel
theorem dX8_await_12 : decode cX8_await 12 = .ok (.invokestatic 197, 3) := by decide +kernel
theorem dX8_await_15 : decode cX8_await 15 = .ok (.lstore_n 2, 1) := by decide +kernel
theorem dX8_await_16 : decode cX8_await 16 = .ok (.aload_n 1, 1) := by decide +kernel
theorem dX8_await_17 : decode cX8_await 17 = .ok (.getfield 128, 3) := by decide +kernel
theorem dX8_await_20 : decode cX8_await 20 = .ok (.aload_n 0, 1) := by decide +kernel
theorem dX8_await_21 : decode cX8_await 21 = .ok (.getfield 63, 3) := by decide +kernel
theorem dX8_await_24 : decode cX8_await 24 = .ok (.if_icmp .le 14, 3) := by decide +kernel
theorem dX8_await_27 : decode cX8_await 27 = .ok (.aload_n 0, 1) := by decide +kernel
theorem dX8_await_28 : decode cX8_await 28 = .ok (.getfield 22, 3) := by decide +kernel
theorem dX8_await_31 : decode cX8_await 31 = .ok (.lload_n 2, 1) := by decide +kernel
theorem dX8_await_32 : decode cX8_await 32 = .ok (.invokevirtual 90, 3) := by decide +kernel
theorem dX8_await_35 : decode cX8_await 35 = .ok (.goto 11, 3) := by decide +kernel
theorem dX8_await_38 : decode cX8_await 38 = .ok (.aload_n 0, 1) := by decide +kernel
theorem dX8_await_39 : decode cX8_await 39 = .ok (.getfield 26, 3) := by decide +kernel
theorem dX8_await_42 : decode cX8_await 42 = .ok (.lload_n 2, 1) := by decide +kernel
theorem dX8_await_43 : decode cX8_await 43 = .ok (.invokevirtual 90, 3) := by decide +kernel
theorem dX8_await_46 : decode cX8_await 46 = .ok (.return_, 1) := by decide +kernel
theorem dX8_give_0 : decode cX8_give 0 = .ok (.aload_n 0, 1) := by decide +kernel
theorem dX8_give_1 : decode cX8_give 1 = .ok (.aload_n 1, 1) := by decide +kernel
theorem dX8_give_2 : decode cX8_give 2 = .ok (.invokevirtual 179, 3) := by decide +kernel
theorem dX8_give_5 : decode cX8_give 5 = .ok (.pop, 1) := by decide +kernel
theorem dX8_give_6 : decode cX8_give 6 = .ok (.aload_n 1, 1) := by decide +kernel
theorem dX8_give_7 : decode cX8_give 7 = .ok (.getfield 194, 3) := by decide +kernel
theorem dX8_give_10 : decode cX8_give 10 = .ok (.aload_n 1, 1) := by decide +kernel
theorem dX8_give_11 : decode cX8_give 11 = .ok (.getfield 156, 3) := by decide +kernel
theorem dX8_give_14 : decode cX8_give 14 = .ok (.aload_n 1, 1) := by decide +kernel
theorem dX8_give_15 : decode cX8_give 15 = .ok (.getfield 128, 3) := by decide +kernel
theorem dX8_give_18 : decode cX8_give 18 = .ok (.invokestatic 197, 3) := by decide +kernel
theorem dX8_give_21 : decode cX8_give 21 = .ok (.lstore_n 2, 1) := by decide +kernel
theorem dX8_give_22 : decode cX8_give 22 = .ok (.aload_n 1, 1) := by decide +kernel
theorem dX8_give_23 : decode cX8_give 23 = .ok (.aload_n 0, 1) := by decide +kernel
theorem dX8_give_24 : decode cX8_give 24 = .ok (.getfield 49, 3) := by decide +kernel
theorem dX8_give_27 : decode cX8_give 27 = .ok (.lload_n 2, 1) := by decide +kernel
theorem dX8_give_28 : decode cX8_give 28 = .ok (.aload_n 0, 1) := by decide +kernel
theorem dX8_give_29 : decode cX8_give 29 = .ok (.getfield 29, 3) := by decide +kernel
theorem dX8_give_32 : decode cX8_give 32 = .ok (.invokestatic 201, 3) := by decide +kernel
theorem dX8_give_35 : decode cX8_give 35 = .ok (.aload_n 1, 1) := by decide +kernel
theorem dX8_give_36 : decode cX8_give 36 = .ok (.aload_n 0, 1) := by decide +kernel
theorem dX8_give_37 : decode cX8_give 37 = .ok (.getfield 140, 3) := by decide +kernel
theorem dX8_give_40 : decode cX8_give 40 = .ok (.invokevirtual 143, 3) := by decide +kernel
theorem dX8_give_43 : decode cX8_give 43 = .ok (.invokevirtual 205, 3) := by decide +kernel
theorem dX8_give_46 : decode cX8_give 46 = .ok (.putfield 131, 3) := by decide +kernel
theorem dX8_give_49 : decode cX8_give 49 = .ok (.aload_n 0, 1) := by decide +kernel
theorem dX8_give_50 : decode cX8_give 50 = .ok (.dup, 1) := by decide +kernel
theorem dX8_give_51 : decode cX8_give 51 = .ok (.getfield 208, 3) := by decide +kernel
theorem dX8_give_54 : decode cX8_give 54 = .ok (.iconst 1, 1) := by decide +kernel
theorem dX8_give_55 : decode cX8_give 55 = .ok (.iadd, 1) := by decide +kernel
theorem dX8_give_56 : decode cX8_give 56 = .ok (.putfield 208, 3) := by decide +kernel
theorem dX8_give_59 : decode cX8_give 59 = .ok (.aload_n 0, 1) := by decide +kernel
theorem dX8_give_60 : decode cX8_give 60 = .ok (.aload_n 1, 1) := by decide +kernel
theorem dX8_give_61 : decode cX8_give 61 = .ok (.getfield 194, 3) := by decide +kernel
theorem dX8_give_64 : decode cX8_give 64 = .ok (.invokevirtual 149, 3) := by decide +kernel
theorem dX8_give_67 : decode cX8_give 67 = .ok (.dup, 1) := by decide +kernel
theorem dX8_give_68 : decode cX8_give 68 = .ok (.getfield 108, 3) := by decide +kernel
theorem dX8_give_71 : decode cX8_give 71 = .ok (.iconst 1, 1) := by decide +kernel
theorem dX8_give_72 : decode cX8_give 72 = .ok (.iadd, 1) := by decide +kernel
theorem dX8_give_73 : decode cX8_give 73 = .ok (.putfield 108, 3) := by decide +kernel
theorem dX8_give_76 : decode cX8_give 76 = .ok (.return_, 1) := by decide +kernel
theorem dX8_takeBack_0 : decode cX8_takeBack 0 = .ok (.aload_n 1, 1) := by decide +kernel
theorem dX8_takeBack_1 : decode cX8_takeBack 1 = .ok (.getfield 131, 3) := by decide +kernel
theorem dX8_takeBack_4 : decode cX8_takeBack 4 = .ok (.iconst (-1), 1) := by decide +kernel
theorem dX8_takeBack_5 : decode cX8_takeBack 5 = .ok (.if_icmp .ne 5, 3) := by decide +kernel
theorem dX8_takeBack_8 : decode cX8_takeBack 8 = .ok (.iconst 0, 1) := by decide +kernel
theorem dX8_takeBack_9 : decode cX8_takeBack 9 = .ok (.ireturn, 1) := by decide +kernel
theorem dX8_takeBack_10 : decode cX8_takeBack 10 = .ok (.aload_n 0, 1) := by decide +kernel
theorem dX8_takeBack_11 : decode cX8_takeBack 11 = .ok (.getfield 49, 3) := by decide +kernel
theorem dX8_takeBack_14 : decode cX8_takeBack 14 = .ok (.aload_n 0, 1) := by decide +kernel
theorem dX8_takeBack_15 : decode cX8_takeBack 15 = .ok (.getfield 49, 3) := by decide +kernel
theorem dX8_takeBack_18 : decode cX8_takeBack 18 = .ok (.aload_n 1, 1) := by decide +kernel
theorem dX8_takeBack_19 : decode cX8_takeBack 19 = .ok (.getfield 131, 3) := by decide +kernel
theorem dX8_takeBack_22 : decode cX8_takeBack 22 = .ok (.invokevirtual 209, 3) := by decide +kernel
theorem dX8_takeBack_25 : decode cX8_takeBack 25 = .ok (.invokestatic 212, 3) := by decide +kernel
theorem dX8_takeBack_28 : decode cX8_takeBack 28 = .ok (.aload_n 0, 1) := by decide +kernel
theorem dX8_takeBack_29 : decode cX8_takeBack 29 = .ok (.getfield 49, 3) := by decide +kernel
theorem dX8_takeBack_32 : decode cX8_takeBack 32 = .ok (.aload_n 1, 1) := by decide +kernel
theorem dX8_takeBack_33 : decode cX8_takeBack 33 = .ok (.getfield 131, 3) := by decide +kernel
theorem dX8_takeBack_36 : decode cX8_takeBack 36 = .ok (.invokevirtual 134, 3) := by decide +kernel
theorem dX8_takeBack_39 : decode cX8_takeBack 39 = .ok (.invokevirtual 205, 3) := by decide +kernel
theorem dX8_takeBack_42 : decode cX8_takeBack 42 = .ok (.pop, 1) := by decide +kernel
theorem dX8_takeBack_43 : decode cX8_takeBack 43 = .ok (.aload_n 1, 1) := by decide +kernel
theorem dX8_takeBack_44 : decode cX8_takeBack 44 = .ok (.iconst (-1), 1) := by decide +kernel
theorem dX8_takeBack_45 : decode cX8_takeBack 45 = .ok (.putfield 131, 3) := by decide +kernel
theorem dX8_takeBack_48 : decode cX8_takeBack 48 = .ok (.aload_n 0, 1) := by decide +kernel
theorem dX8_takeBack_49 : decode cX8_takeBack 49 = .ok (.dup, 1) := by decide +kernel
theorem dX8_takeBack_50 : decode cX8_takeBack 50 = .ok (.getfield 208, 3) := by decide +kernel
theorem dX8_takeBack_53 : decode cX8_takeBack 53 = .ok (.iconst 1, 1) := by decide +kernel
theorem dX8_takeBack_54 : decode cX8_takeBack 54 = .ok (.isub, 1) := by decide +kernel
theorem dX8_takeBack_55 : decode cX8_takeBack 55 = .ok (.putfield 208, 3) := by decide +kernel
theorem dX8_takeBack_58 : decode cX8_takeBack 58 = .ok (.aload_n 0, 1) := by decide +kernel
theorem dX8_takeBack_59 : decode cX8_takeBack 59 = .ok (.aload_n 1, 1) := by decide +kernel
theorem dX8_takeBack_60 : decode cX8_takeBack 60 = .ok (.getfield 194, 3) := by decide +kernel
theorem dX8_takeBack_63 : decode cX8_takeBack 63 = .ok (.invokevirtual 149, 3) := by decide +kernel
theorem dX8_takeBack_66 : decode cX8_takeBack 66 = .ok (.dup, 1) := by decide +kernel
theorem dX8_takeBack_67 : decode cX8_takeBack 67 = .ok (.getfield 108, 3) := by decide +kernel
theorem dX8_takeBack_70 : decode cX8_takeBack 70 = .ok (.iconst 1, 1) := by decide +kernel
theorem dX8_takeBack_71 : decode cX8_takeBack 71 = .ok (.isub, 1) := by decide +kernel
theorem dX8_takeBack_72 : decode cX8_takeBack 72 = .ok (.putfield 108, 3) := by decide +kernel
theorem dX8_takeBack_75 : decode cX8_takeBack 75 = .ok (.iconst 1, 1) := by decide +kernel
theorem dX8_takeBack_76 : decode cX8_takeBack 76 = .ok (.ireturn, 1) := by decide +kernel
theorem dX8_laneOf_0 : decode cX8_laneOf 0 = .ok (.iload_n 1, 1) := by decide +kernel
theorem dX8_laneOf_1 : decode cX8_laneOf 1 = .ok (.sipush 1000, 3) := by decide +kernel
theorem dX8_laneOf_4 : decode cX8_laneOf 4 = .ok (.invokestatic 216, 3) := by decide +kernel
theorem dX8_laneOf_7 : decode cX8_laneOf 7 = .ok (.istore_n 2, 1) := by decide +kernel
theorem dX8_laneOf_8 : decode cX8_laneOf 8 = .ok (.aload_n 0, 1) := by decide +kernel
theorem dX8_laneOf_9 : decode cX8_laneOf 9 = .ok (.getfield 11, 3) := by decide +kernel
theorem dX8_laneOf_12 : decode cX8_laneOf 12 = .ok (.iload_n 2, 1) := by decide +kernel
theorem dX8_laneOf_13 : decode cX8_laneOf 13 = .ok (.aaload, 1) := by decide +kernel
theorem dX8_laneOf_14 : decode cX8_laneOf 14 = .ok (.ifnonnull 16, 3) := by decide +kernel
theorem dX8_laneOf_17 : decode cX8_laneOf 17 = .ok (.aload_n 0, 1) := by decide +kernel
theorem dX8_laneOf_18 : decode cX8_laneOf 18 = .ok (.getfield 11, 3) := by decide +kernel
theorem dX8_laneOf_21 : decode cX8_laneOf 21 = .ok (.iload_n 2, 1) := by decide +kernel
theorem dX8_laneOf_22 : decode cX8_laneOf 22 = .ok (.new 9, 3) := by decide +kernel
theorem dX8_laneOf_25 : decode cX8_laneOf 25 = .ok (.dup, 1) := by decide +kernel
theorem dX8_laneOf_26 : decode cX8_laneOf 26 = .ok (.invokespecial 219, 3) := by decide +kernel
theorem dX8_laneOf_29 : decode cX8_laneOf 29 = .ok (.aastore, 1) := by decide +kernel
theorem dX8_laneOf_30 : decode cX8_laneOf 30 = .ok (.aload_n 0, 1) := by decide +kernel
theorem dX8_laneOf_31 : decode cX8_laneOf 31 = .ok (.getfield 11, 3) := by decide +kernel
theorem dX8_laneOf_34 : decode cX8_laneOf 34 = .ok (.iload_n 2, 1) := by decide +kernel
theorem dX8_laneOf_35 : decode cX8_laneOf 35 = .ok (.aaload, 1) := by decide +kernel
theorem dX8_laneOf_36 : decode cX8_laneOf 36 = .ok (.areturn, 1) := by decide +kernel
theorem dX8_windowAt_0 : decode cX8_windowAt 0 = .ok (.aload_n 0, 1) := by decide +kernel
theorem dX8_windowAt_1 : decode cX8_windowAt 1 = .ok (.lload_n 1, 1) := by decide +kernel
theorem dX8_windowAt_2 : decode cX8_windowAt 2 = .ok (.invokestatic 220, 3) := by decide +kernel
theorem dX8_windowAt_5 : decode cX8_windowAt 5 = .ok (.invokevirtual 149, 3) := by decide +kernel
theorem dX8_windowAt_8 : decode cX8_windowAt 8 = .ok (.astore_n 3, 1) := by decide +kernel
theorem dX8_windowAt_9 : decode cX8_windowAt 9 = .ok (.aload_n 3, 1) := by decide +kernel
theorem dX8_windowAt_10 : decode cX8_windowAt 10 = .ok (.aload_n 3, 1) := by decide +kernel
theorem dX8_windowAt_11 : decode cX8_windowAt 11 = .ok (.lload_n 1, 1) := by decide +kernel
theorem dX8_windowAt_12 : decode cX8_windowAt 12 = .ok (.invokestatic 73, 3) := by decide +kernel
theorem dX8_windowAt_15 : decode cX8_windowAt 15 = .ok (.invokevirtual 153, 3) := by decide +kernel
theorem dX8_windowAt_18 : decode cX8_windowAt 18 = .ok (.invokevirtual 124, 3) := by decide +kernel
theorem dX8_windowAt_21 : decode cX8_windowAt 21 = .ok (.astore 4, 2) := by decide +kernel
theorem dX8_windowAt_23 : decode cX8_windowAt 23 = .ok (.aload 4, 2) := by decide +kernel
theorem dX8_windowAt_25 : decode cX8_windowAt 25 = .ok (.ifnull 31, 3) := by decide +kernel
theorem dX8_windowAt_28 : decode cX8_windowAt 28 = .ok (.aload 4, 2) := by decide +kernel
theorem dX8_windowAt_30 : decode cX8_windowAt 30 = .ok (.getfield 156, 3) := by decide +kernel
theorem dX8_windowAt_33 : decode cX8_windowAt 33 = .ok (.lload_n 1, 1) := by decide +kernel
theorem dX8_windowAt_34 : decode cX8_windowAt 34 = .ok (.invokestatic 223, 3) := by decide +kernel
theorem dX8_windowAt_37 : decode cX8_windowAt 37 = .ok (.if_icmp .ne 19, 3) := by decide +kernel
theorem dX8_windowAt_40 : decode cX8_windowAt 40 = .ok (.aload 4, 2) := by decide +kernel
theorem dX8_windowAt_42 : decode cX8_windowAt 42 = .ok (.getfield 128, 3) := by decide +kernel
theorem dX8_windowAt_45 : decode cX8_windowAt 45 = .ok (.lload_n 1, 1) := by decide +kernel
theorem dX8_windowAt_46 : decode cX8_windowAt 46 = .ok (.invokestatic 73, 3) := by decide +kernel
theorem dX8_windowAt_49 : decode cX8_windowAt 49 = .ok (.if_icmp .ne 7, 3) := by decide +kernel
theorem dX8_windowAt_52 : decode cX8_windowAt 52 = .ok (.iconst 1, 1) := by decide +kernel
theorem dX8_windowAt_53 : decode cX8_windowAt 53 = .ok (.goto 4, 3) := by decide +kernel
theorem dX8_windowAt_56 : decode cX8_windowAt 56 = .ok (.iconst 0, 1) := by decide +kernel
theorem dX8_windowAt_57 : decode cX8_windowAt 57 = .ok (.istore 5, 2) := by decide +kernel
theorem dX8_windowAt_59 : decode cX8_windowAt 59 = .ok (.iload 5, 2) := by decide +kernel
theorem dX8_windowAt_61 : decode cX8_windowAt 61 = .ok (.ifCond .eq 8, 3) := by decide +kernel
theorem dX8_windowAt_64 : decode cX8_windowAt 64 = .ok (.aload 4, 2) := by decide +kernel
theorem dX8_windowAt_66 : decode cX8_windowAt 66 = .ok (.goto 4, 3) := by decide +kernel
theorem dX8_windowAt_69 : decode cX8_windowAt 69 = .ok (.aconst_null, 1) := by decide +kernel
theorem dX8_windowAt_70 : decode cX8_windowAt 70 = .ok (.areturn, 1) := by decide +kernel
theorem dX9_init_0 : decode cX9_init 0 = .ok (.aload_n 0, 1) := by decide +kernel
theorem dX9_init_1 : decode cX9_init 1 = .ok (.invokespecial 1, 3) := by decide +kernel
theorem dX9_init_4 : decode cX9_init 4 = .ok (.aload_n 0, 1) := by decide +kernel
theorem dX9_init_5 : decode cX9_init 5 = .ok (.bipush 24, 2) := by decide +kernel
theorem dX9_init_7 : decode cX9_init 7 = .ok (.anewarray 9, 3) := by decide +kernel
theorem dX9_init_10 : decode cX9_init 10 = .ok (.putfield 11, 3) := by decide +kernel
theorem dX9_init_13 : decode cX9_init 13 = .ok (.aload_n 0, 1) := by decide +kernel
theorem dX9_init_14 : decode cX9_init 14 = .ok (.bipush 16, 2) := by decide +kernel
theorem dX9_init_16 : decode cX9_init 16 = .ok (.anewarray 15, 3) := by decide +kernel
theorem dX9_init_19 : decode cX9_init 19 = .ok (.putfield 17, 3) := by decide +kernel
theorem dX9_init_22 : decode cX9_init 22 = .ok (.aload_n 0, 1) := by decide +kernel
theorem dX9_init_23 : decode cX9_init 23 = .ok (.bipush 16, 2) := by decide +kernel
theorem dX9_init_25 : decode cX9_init 25 = .ok (.newarray .int, 2) := by decide +kernel
theorem dX9_init_27 : decode cX9_init 27 = .ok (.putfield 21, 3) := by decide +kernel
theorem dX9_init_30 : decode cX9_init 30 = .ok (.aload_n 0, 1) := by decide +kernel
theorem dX9_init_31 : decode cX9_init 31 = .ok (.new 25, 3) := by decide +kernel
theorem dX9_init_34 : decode cX9_init 34 = .ok (.dup, 1) := by decide +kernel
theorem dX9_init_35 : decode cX9_init 35 = .ok (.invokespecial 27, 3) := by decide +kernel
theorem dX9_init_38 : decode cX9_init 38 = .ok (.putfield 28, 3) := by decide +kernel
theorem dX9_init_41 : decode cX9_init 41 = .ok (.iconst 0, 1) := by decide +kernel
theorem dX9_init_42 : decode cX9_init 42 = .ok (.istore_n 1, 1) := by decide +kernel
theorem dX9_init_43 : decode cX9_init 43 = .ok (.iload_n 1, 1) := by decide +kernel
theorem dX9_init_44 : decode cX9_init 44 = .ok (.bipush 8, 2) := by decide +kernel
theorem dX9_init_46 : decode cX9_init 46 = .ok (.if_icmp .ge 22, 3) := by decide +kernel
theorem dX9_init_49 : decode cX9_init 49 = .ok (.aload_n 0, 1) := by decide +kernel
theorem dX9_init_50 : decode cX9_init 50 = .ok (.getfield 11, 3) := by decide +kernel
theorem dX9_init_53 : decode cX9_init 53 = .ok (.iload_n 1, 1) := by decide +kernel
theorem dX9_init_54 : decode cX9_init 54 = .ok (.new 9, 3) := by decide +kernel
theorem dX9_init_57 : decode cX9_init 57 = .ok (.dup, 1) := by decide +kernel
theorem dX9_init_58 : decode cX9_init 58 = .ok (.invokespecial 32, 3) := by decide +kernel
theorem dX9_init_61 : decode cX9_init 61 = .ok (.aastore, 1) := by decide +kernel
theorem dX9_init_62 : decode cX9_init 62 = .ok (.iinc 1 1, 3) := by decide +kernel
theorem dX9_init_65 : decode cX9_init 65 = .ok (.goto (-22), 3) := by decide +kernel
theorem dX9_init_68 : decode cX9_init 68 = .ok (.return_, 1) := by decide +kernel
theorem dX9_stage_0 : decode cX9_stage 0 = .ok (.iload_n 1, 1) := by decide +kernel
theorem dX9_stage_1 : decode cX9_stage 1 = .ok (.iload_n 2, 1) := by decide +kernel
theorem dX9_stage_2 : decode cX9_stage 2 = .ok (.iload_n 3, 1) := by decide +kernel
theorem dX9_stage_3 : decode cX9_stage 3 = .ok (.invokestatic 33, 3) := by decide +kernel
theorem dX9_stage_6 : decode cX9_stage 6 = .ok (.ifCond .ne 5, 3) := by decide +kernel
theorem dX9_stage_9 : decode cX9_stage 9 = .ok (.iconst (-1), 1) := by decide +kernel
theorem dX9_stage_10 : decode cX9_stage 10 = .ok (.ireturn, 1) := by decide +kernel
theorem dX9_stage_11 : decode cX9_stage 11 = .ok (.aload_n 0, 1) := by decide +kernel
theorem dX9_stage_12 : decode cX9_stage 12 = .ok (.getfield 37, 3) := by decide +kernel
theorem dX9_stage_15 : decode cX9_stage 15 = .ok (.bipush 16, 2) := by decide +kernel
theorem dX9_stage_17 : decode cX9_stage 17 = .ok (.if_icmp .lt 6, 3) := by decide +kernel
theorem dX9_stage_20 : decode cX9_stage 20 = .ok (.bipush (-6), 2) := by decide +kernel
theorem dX9_stage_22 : decode cX9_stage 22 = .ok (.ireturn, 1) := by decide +kernel
theorem dX9_stage_23 : decode cX9_stage 23 = .ok (.iload_n 1, 1) := by decide +kernel
theorem dX9_stage_24 : decode cX9_stage 24 = .ok (.iconst 4, 1) := by decide +kernel
theorem dX9_stage_25 : decode cX9_stage 25 = .ok (.if_icmp .lt 24, 3) := by decide +kernel
theorem dX9_stage_28 : decode cX9_stage 28 = .ok (.new 41, 3) := by decide +kernel
theorem dX9_stage_31 : decode cX9_stage 31 = .ok (.dup, 1) := by decide +kernel
theorem dX9_stage_32 : decode cX9_stage 32 = .ok (.aload_n 0, 1) := by decide +kernel
theorem dX9_stage_33 : decode cX9_stage 33 = .ok (.getfield 37, 3) := by decide +kernel
theorem dX9_stage_36 : decode cX9_stage 36 = .ok (.iload_n 1, 1) := by decide +kernel
theorem dX9_stage_37 : decode cX9_stage 37 = .ok (.iload_n 2, 1) := by decide +kernel
theorem dX9_stage_38 : decode cX9_stage 38 = .ok (.iload_n 3, 1) := by decide +kernel
theorem dX9_stage_39 : decode cX9_stage 39 = .ok (.aload_n 0, 1) := by decide +kernel
theorem dX9_stage_40 : decode cX9_stage 40 = .ok (.getfield 28, 3) := by decide +kernel
theorem dX9_stage_43 : decode cX9_stage 43 = .ok (.invokespecial 43, 3) := by decide +kernel
theorem dX9_stage_46 : decode cX9_stage 46 = .ok (.goto 13, 3) := by decide +kernel
theorem dX9_stage_49 : decode cX9_stage 49 = .ok (.new 46, 3) := by decide +kernel
theorem dX9_stage_52 : decode cX9_stage 52 = .ok (.dup, 1) := by decide +kernel
theorem dX9_stage_53 : decode cX9_stage 53 = .ok (.iload_n 1, 1) := by decide +kernel
theorem dX9_stage_54 : decode cX9_stage 54 = .ok (.iload_n 2, 1) := by decide +kernel
theorem dX9_stage_55 : decode cX9_stage 55 = .ok (.iload_n 3, 1) := by decide +kernel
theorem dX9_stage_56 : decode cX9_stage 56 = .ok (.invokespecial 48, 3) := by decide +kernel
theorem dX9_stage_59 : decode cX9_stage 59 = .ok (.astore 4, 2) := by decide +kernel
theorem dX9_stage_61 : decode cX9_stage 61 = .ok (.aload_n 0, 1) := by decide +kernel
theorem dX9_stage_62 : decode cX9_stage 62 = .ok (.getfield 17, 3) := by decide +kernel
theorem dX9_stage_65 : decode cX9_stage 65 = .ok (.aload_n 0, 1) := by decide +kernel
theorem dX9_stage_66 : decode cX9_stage 66 = .ok (.getfield 37, 3) := by decide +kernel
theorem dX9_stage_69 : decode cX9_stage 69 = .ok (.aload 4, 2) := by decide +kernel
theorem dX9_stage_71 : decode cX9_stage 71 = .ok (.aastore, 1) := by decide +kernel
theorem dX9_stage_72 : decode cX9_stage 72 = .ok (.aload_n 0, 1) := by decide +kernel
theorem dX9_stage_73 : decode cX9_stage 73 = .ok (.getfield 11, 3) := by decide +kernel
theorem dX9_stage_76 : decode cX9_stage 76 = .ok (.bipush 8, 2) := by decide +kernel
theorem dX9_stage_78 : decode cX9_stage 78 = .ok (.aload_n 0, 1) := by decide +kernel
theorem dX9_stage_79 : decode cX9_stage 79 = .ok (.getfield 37, 3) := by decide +kernel
theorem dX9_stage_82 : decode cX9_stage 82 = .ok (.iadd, 1) := by decide +kernel
theorem dX9_stage_83 : decode cX9_stage 83 = .ok (.aload 4, 2) := by decide +kernel
theorem dX9_stage_85 : decode cX9_stage 85 = .ok (.aastore, 1) := by decide +kernel
theorem dX9_stage_86 : decode cX9_stage 86 = .ok (.aload_n 0, 1) := by decide +kernel
theorem dX9_stage_87 : decode cX9_stage 87 = .ok (.dup, 1) := by decide +kernel
theorem dX9_stage_88 : decode cX9_stage 88 = .ok (.getfield 37, 3) := by decide +kernel
theorem dX9_stage_91 : decode cX9_stage 91 = .ok (.dup_x1, 1) := by decide +kernel
theorem dX9_stage_92 : decode cX9_stage 92 = .ok (.iconst 1, 1) := by decide +kernel
theorem dX9_stage_93 : decode cX9_stage 93 = .ok (.iadd, 1) := by decide +kernel
theorem dX9_stage_94 : decode cX9_stage 94 = .ok (.putfield 37, 3) := by decide +kernel
theorem dX9_stage_97 : decode cX9_stage 97 = .ok (.ireturn, 1) := by decide +kernel
theorem dX9_feed_0 : decode cX9_feed 0 = .ok (.aload_n 0, 1) := by decide +kernel
theorem dX9_feed_1 : decode cX9_feed 1 = .ok (.iload_n 1, 1) := by decide +kernel
theorem dX9_feed_2 : decode cX9_feed 2 = .ok (.invokevirtual 51, 3) := by decide +kernel
theorem dX9_feed_5 : decode cX9_feed 5 = .ok (.astore_n 3, 1) := by decide +kernel
theorem dX9_feed_6 : decode cX9_feed 6 = .ok (.aload_n 0, 1) := by decide +kernel
theorem dX9_feed_7 : decode cX9_feed 7 = .ok (.iload_n 2, 1) := by decide +kernel
theorem dX9_feed_8 : decode cX9_feed 8 = .ok (.invokevirtual 55, 3) := by decide +kernel
theorem dX9_feed_11 : decode cX9_feed 11 = .ok (.astore 4, 2) := by decide +kernel
theorem dX9_feed_13 : decode cX9_feed 13 = .ok (.aload_n 3, 1) := by decide +kernel
theorem dX9_feed_14 : decode cX9_feed 14 = .ok (.ifnull 8, 3) := by decide +kernel
theorem dX9_feed_17 : decode cX9_feed 17 = .ok (.aload 4, 2) := by decide +kernel
theorem dX9_feed_19 : decode cX9_feed 19 = .ok (.ifnonnull 5, 3) := by decide +kernel
theorem dX9_feed_22 : decode cX9_feed 22 = .ok (.iconst (-1), 1) := by decide +kernel
theorem dX9_feed_23 : decode cX9_feed 23 = .ok (.ireturn, 1) := by decide +kernel
theorem dX9_feed_24 : decode cX9_feed 24 = .ok (.iload_n 2, 1) := by decide +kernel
theorem dX9_feed_25 : decode cX9_feed 25 = .ok (.bipush 8, 2) := by decide +kernel
theorem dX9_feed_27 : decode cX9_feed 27 = .ok (.isub, 1) := by decide +kernel
theorem dX9_feed_28 : decode cX9_feed 28 = .ok (.iload_n 1, 1) := by decide +kernel
theorem dX9_feed_29 : decode cX9_feed 29 = .ok (.if_icmp .ge 19, 3) := by decide +kernel
theorem dX9_feed_32 : decode cX9_feed 32 = .ok (.aload 4, 2) := by decide +kernel
theorem dX9_feed_34 : decode cX9_feed 34 = .ok (.instanceof 41, 3) := by decide +kernel
theorem dX9_feed_37 : decode cX9_feed 37 = .ok (.ifCond .ne 11, 3) := by decide +kernel
theorem dX9_feed_40 : decode cX9_feed 40 = .ok (.aload_n 3, 1) := by decide +kernel
theorem dX9_feed_41 : decode cX9_feed 41 = .ok (.iload_n 2, 1) := by decide +kernel
theorem dX9_feed_42 : decode cX9_feed 42 = .ok (.invokevirtual 59, 3) := by decide +kernel
theorem dX9_feed_45 : decode cX9_feed 45 = .ok (.ifCond .eq 6, 3) := by decide +kernel
theorem dX9_feed_48 : decode cX9_feed 48 = .ok (.bipush (-3), 2) := by decide +kernel
theorem dX9_feed_50 : decode cX9_feed 50 = .ok (.ireturn, 1) := by decide +kernel
theorem dX9_feed_51 : decode cX9_feed 51 = .ok (.aload_n 3, 1) := by decide +kernel
theorem dX9_feed_52 : decode cX9_feed 52 = .ok (.getfield 63, 3) := by decide +kernel
theorem dX9_feed_55 : decode cX9_feed 55 = .ok (.ifCond .le 6, 3) := by decide +kernel
theorem dX9_feed_58 : decode cX9_feed 58 = .ok (.bipush (-4), 2) := by decide +kernel
theorem dX9_feed_60 : decode cX9_feed 60 = .ok (.ireturn, 1) := by decide +kernel
theorem dX9_feed_61 : decode cX9_feed 61 = .ok (.aload_n 0, 1) := by decide +kernel
theorem dX9_feed_62 : decode cX9_feed 62 = .ok (.iload_n 1, 1) := by decide +kernel
theorem dX9_feed_63 : decode cX9_feed 63 = .ok (.iload_n 2, 1) := by decide +kernel
theorem dX9_feed_64 : decode cX9_feed 64 = .ok (.invokevirtual 66, 3) := by decide +kernel
theorem dX9_feed_67 : decode cX9_feed 67 = .ok (.ifCond .eq 6, 3) := by decide +kernel
theorem dX9_feed_70 : decode cX9_feed 70 = .ok (.bipush (-6), 2) := by decide +kernel
theorem dX9_feed_72 : decode cX9_feed 72 = .ok (.ireturn, 1) := by decide +kernel
theorem dX9_feed_73 : decode cX9_feed 73 = .ok (.aload_n 3, 1) := by decide +kernel
theorem dX9_feed_74 : decode cX9_feed 74 = .ok (.dup, 1) := by decide +kernel
theorem dX9_feed_75 : decode cX9_feed 75 = .ok (.getfield 70, 3) := by decide +kernel
theorem dX9_feed_78 : decode cX9_feed 78 = .ok (.iconst 1, 1) := by decide +kernel
theorem dX9_feed_79 : decode cX9_feed 79 = .ok (.iload_n 2, 1) := by decide +kernel
theorem dX9_feed_80 : decode cX9_feed 80 = .ok (.ishl, 1) := by decide +kernel
theorem dX9_feed_81 : decode cX9_feed 81 = .ok (.ior, 1) := by decide +kernel
theorem dX9_feed_82 : decode cX9_feed 82 = .ok (.putfield 70, 3) := by decide +kernel
theorem dX9_feed_85 : decode cX9_feed 85 = .ok (.aload_n 0, 1) := by decide +kernel
theorem dX9_feed_86 : decode cX9_feed 86 = .ok (.invokevirtual 73, 3) := by decide +kernel
theorem dX9_feed_89 : decode cX9_feed 89 = .ok (.aload_n 3, 1) := by decide +kernel
theorem dX9_feed_90 : decode cX9_feed 90 = .ok (.getfield 70, 3) := by decide +kernel
theorem dX9_feed_93 : decode cX9_feed 93 = .ok (.invokestatic 76, 3) := by decide +kernel
theorem dX9_feed_96 : decode cX9_feed 96 = .ok (.ireturn, 1) := by decide +kernel
theorem dX9_window_0 : decode cX9_window 0 = .ok (.aload_n 0, 1) := by decide +kernel
theorem dX9_window_1 : decode cX9_window 1 = .ok (.iload_n 1, 1) := by decide +kernel
theorem dX9_window_2 : decode cX9_window 2 = .ok (.invokevirtual 51, 3) := by decide +kernel
theorem dX9_window_5 : decode cX9_window 5 = .ok (.astore 5, 2) := by decide +kernel
theorem dX9_window_7 : decode cX9_window 7 = .ok (.aload 5, 2) := by decide +kernel
theorem dX9_window_9 : decode cX9_window 9 = .ok (.ifnull 34, 3) := by decide +kernel
theorem dX9_window_12 : decode cX9_window 12 = .ok (.iload_n 2, 1) := by decide +kernel
theorem dX9_window_13 : decode cX9_window 13 = .ok (.iconst 0, 1) := by decide +kernel
theorem dX9_window_14 : decode cX9_window 14 = .ok (.iconst 5, 1) := by decide +kernel
theorem dX9_window_15 : decode cX9_window 15 = .ok (.invokestatic 82, 3) := by decide +kernel
theorem dX9_window_18 : decode cX9_window 18 = .ok (.ifCond .eq 25, 3) := by decide +kernel
theorem dX9_window_21 : decode cX9_window 21 = .ok (.iload_n 3, 1) := by decide +kernel
theorem dX9_window_22 : decode cX9_window 22 = .ok (.iconst 0, 1) := by decide +kernel
theorem dX9_window_23 : decode cX9_window 23 = .ok (.ldc 85, 2) := by decide +kernel
theorem dX9_window_25 : decode cX9_window 25 = .ok (.invokestatic 82, 3) := by decide +kernel
theorem dX9_window_28 : decode cX9_window 28 = .ok (.ifCond .eq 15, 3) := by decide +kernel
theorem dX9_window_31 : decode cX9_window 31 = .ok (.iload 4, 2) := by decide +kernel
theorem dX9_window_33 : decode cX9_window 33 = .ok (.iconst 0, 1) := by decide +kernel
theorem dX9_window_34 : decode cX9_window 34 = .ok (.sipush 1000, 3) := by decide +kernel
theorem dX9_window_37 : decode cX9_window 37 = .ok (.invokestatic 82, 3) := by decide +kernel
theorem dX9_window_40 : decode cX9_window 40 = .ok (.ifCond .ne 5, 3) := by decide +kernel
theorem dX9_window_43 : decode cX9_window 43 = .ok (.iconst (-1), 1) := by decide +kernel
theorem dX9_window_44 : decode cX9_window 44 = .ok (.ireturn, 1) := by decide +kernel
theorem dX9_window_45 : decode cX9_window 45 = .ok (.aload 5, 2) := by decide +kernel
theorem dX9_window_47 : decode cX9_window 47 = .ok (.instanceof 41, 3) := by decide +kernel
theorem dX9_window_50 : decode cX9_window 50 = .ok (.ifCond .eq 13, 3) := by decide +kernel
theorem dX9_window_53 : decode cX9_window 53 = .ok (.aload 5, 2) := by decide +kernel
theorem dX9_window_55 : decode cX9_window 55 = .ok (.checkcast 41, 3) := by decide +kernel
theorem dX9_window_58 : decode cX9_window 58 = .ok (.astore 6, 2) := by decide +kernel
theorem dX9_window_60 : decode cX9_window 60 = .ok (.goto 6, 3) := by decide +kernel
theorem dX9_window_63 : decode cX9_window 63 = .ok (.bipush (-2), 2) := by decide +kernel
theorem dX9_window_65 : decode cX9_window 65 = .ok (.ireturn, 1) := by decide +kernel
theorem dX9_window_66 : decode cX9_window 66 = .ok (.aload 5, 2) := by decide +kernel
theorem dX9_window_68 : decode cX9_window 68 = .ok (.getfield 63, 3) := by decide +kernel
theorem dX9_window_71 : decode cX9_window 71 = .ok (.ifCond .le 6, 3) := by decide +kernel
theorem dX9_window_74 : decode cX9_window 74 = .ok (.bipush (-4), 2) := by decide +kernel
theorem dX9_window_76 : decode cX9_window 76 = .ok (.ireturn, 1) := by decide +kernel
theorem dX9_window_77 : decode cX9_window 77 = .ok (.aload 6, 2) := by decide +kernel
theorem dX9_window_79 : decode cX9_window 79 = .ok (.iload_n 2, 1) := by decide +kernel
theorem dX9_window_80 : decode cX9_window 80 = .ok (.putfield 86, 3) := by decide +kernel
theorem dX9_window_83 : decode cX9_window 83 = .ok (.aload 6, 2) := by decide +kernel
theorem dX9_window_85 : decode cX9_window 85 = .ok (.iload_n 3, 1) := by decide +kernel
theorem dX9_window_86 : decode cX9_window 86 = .ok (.putfield 89, 3) := by decide +kernel
theorem dX9_window_89 : decode cX9_window 89 = .ok (.aload 6, 2) := by decide +kernel
theorem dX9_window_91 : decode cX9_window 91 = .ok (.iload 4, 2) := by decide +kernel
theorem dX9_window_93 : decode cX9_window 93 = .ok (.putfield 92, 3) := by decide +kernel
theorem dX9_window_96 : decode cX9_window 96 = .ok (.iconst 1, 1) := by decide +kernel
theorem dX9_window_97 : decode cX9_window 97 = .ok (.ireturn, 1) := by decide +kernel
theorem dX9_event_0 : decode cX9_event 0 = .ok (.iload_n 1, 1) := by decide +kernel
theorem dX9_event_1 : decode cX9_event 1 = .ok (.invokestatic 95, 3) := by decide +kernel
theorem dX9_event_4 : decode cX9_event 4 = .ok (.ifCond .eq 24, 3) := by decide +kernel
theorem dX9_event_7 : decode cX9_event 7 = .ok (.iload_n 2, 1) := by decide +kernel
theorem dX9_event_8 : decode cX9_event 8 = .ok (.iconst 0, 1) := by decide +kernel
theorem dX9_event_9 : decode cX9_event 9 = .ok (.sipush 999, 3) := by decide +kernel
theorem dX9_event_12 : decode cX9_event 12 = .ok (.invokestatic 82, 3) := by decide +kernel
theorem dX9_event_15 : decode cX9_event 15 = .ok (.ifCond .eq 13, 3) := by decide +kernel
theorem dX9_event_18 : decode cX9_event 18 = .ok (.iload_n 3, 1) := by decide +kernel
theorem dX9_event_19 : decode cX9_event 19 = .ok (.iconst 0, 1) := by decide +kernel
theorem dX9_event_20 : decode cX9_event 20 = .ok (.ldc 85, 2) := by decide +kernel
theorem dX9_event_22 : decode cX9_event 22 = .ok (.invokestatic 82, 3) := by decide +kernel
theorem dX9_event_25 : decode cX9_event 25 = .ok (.ifCond .ne 5, 3) := by decide +kernel
theorem dX9_event_28 : decode cX9_event 28 = .ok (.iconst (-1), 1) := by decide +kernel
theorem dX9_event_29 : decode cX9_event 29 = .ok (.ireturn, 1) := by decide +kernel
theorem dX9_event_30 : decode cX9_event 30 = .ok (.aload_n 0, 1) := by decide +kernel
theorem dX9_event_31 : decode cX9_event 31 = .ok (.getfield 98, 3) := by decide +kernel
theorem dX9_event_34 : decode cX9_event 34 = .ok (.sipush 3000, 3) := by decide +kernel
theorem dX9_event_37 : decode cX9_event 37 = .ok (.if_icmp .lt 6, 3) := by decide +kernel
theorem dX9_event_40 : decode cX9_event 40 = .ok (.bipush (-6), 2) := by decide +kernel
theorem dX9_event_42 : decode cX9_event 42 = .ok (.ireturn, 1) := by decide +kernel
theorem dX9_event_43 : decode cX9_event 43 = .ok (.aload_n 0, 1) := by decide +kernel
theorem dX9_event_44 : decode cX9_event 44 = .ok (.dup, 1) := by decide +kernel
theorem dX9_event_45 : decode cX9_event 45 = .ok (.getfield 98, 3) := by decide +kernel
theorem dX9_event_48 : decode cX9_event 48 = .ok (.iconst 1, 1) := by decide +kernel
theorem dX9_event_49 : decode cX9_event 49 = .ok (.iadd, 1) := by decide +kernel
theorem dX9_event_50 : decode cX9_event 50 = .ok (.putfield 98, 3) := by decide +kernel
theorem dX9_event_53 : decode cX9_event 53 = .ok (.aload_n 0, 1) := by decide +kernel
theorem dX9_event_54 : decode cX9_event 54 = .ok (.iload_n 1, 1) := by decide +kernel
theorem dX9_event_55 : decode cX9_event 55 = .ok (.iload_n 2, 1) := by decide +kernel
theorem dX9_event_56 : decode cX9_event 56 = .ok (.iload_n 3, 1) := by decide +kernel
theorem dX9_event_57 : decode cX9_event 57 = .ok (.iload 4, 2) := by decide +kernel
theorem dX9_event_59 : decode cX9_event 59 = .ok (.i2l, 1) := by decide +kernel
theorem dX9_event_60 : decode cX9_event 60 = .ok (.invokevirtual 101, 3) := by decide +kernel
theorem dX9_event_63 : decode cX9_event 63 = .ok (.aload_n 0, 1) := by decide +kernel
theorem dX9_event_64 : decode cX9_event 64 = .ok (.getfield 28, 3) := by decide +kernel
theorem dX9_event_67 : decode cX9_event 67 = .ok (.getfield 105, 3) := by decide +kernel
theorem dX9_event_70 : decode cX9_event 70 = .ok (.ireturn, 1) := by decide +kernel
theorem dX9_burst_0 : decode cX9_burst 0 = .ok (.iload_n 2, 1) := by decide +kernel
theorem dX9_burst_1 : decode cX9_burst 1 = .ok (.sipush 1000, 3) := by decide +kernel
theorem dX9_burst_4 : decode cX9_burst 4 = .ok (.idiv, 1) := by decide +kernel
theorem dX9_burst_5 : decode cX9_burst 5 = .ok (.istore 6, 2) := by decide +kernel
theorem dX9_burst_7 : decode cX9_burst 7 = .ok (.iload_n 1, 1) := by decide +kernel
theorem dX9_burst_8 : decode cX9_burst 8 = .ok (.invokestatic 95, 3) := by decide +kernel
theorem dX9_burst_11 : decode cX9_burst 11 = .ok (.ifCond .eq 19, 3) := by decide +kernel
theorem dX9_burst_14 : decode cX9_burst 14 = .ok (.iload_n 2, 1) := by decide +kernel
theorem dX9_burst_15 : decode cX9_burst 15 = .ok (.ifCond .lt 15, 3) := by decide +kernel
theorem dX9_burst_18 : decode cX9_burst 18 = .ok (.iload 6, 2) := by decide +kernel
theorem dX9_burst_20 : decode cX9_burst 20 = .ok (.iconst 1, 1) := by decide +kernel
theorem dX9_burst_21 : decode cX9_burst 21 = .ok (.sipush 200, 3) := by decide +kernel
theorem dX9_burst_24 : decode cX9_burst 24 = .ok (.invokestatic 82, 3) := by decide +kernel
theorem dX9_burst_27 : decode cX9_burst 27 = .ok (.ifCond .ne 5, 3) := by decide +kernel
theorem dX9_burst_30 : decode cX9_burst 30 = .ok (.iconst (-1), 1) := by decide +kernel
theorem dX9_burst_31 : decode cX9_burst 31 = .ok (.ireturn, 1) := by decide +kernel
theorem dX9_burst_32 : decode cX9_burst 32 = .ok (.iload_n 2, 1) := by decide +kernel
theorem dX9_burst_33 : decode cX9_burst 33 = .ok (.sipush 1000, 3) := by decide +kernel
theorem dX9_burst_36 : decode cX9_burst 36 = .ok (.irem, 1) := by decide +kernel
theorem dX9_burst_37 : decode cX9_burst 37 = .ok (.istore 7, 2) := by decide +kernel
theorem dX9_burst_39 : decode cX9_burst 39 = .ok (.iload_n 3, 1) := by decide +kernel
theorem dX9_burst_40 : decode cX9_burst 40 = .ok (.i2l, 1) := by decide +kernel
theorem dX9_burst_41 : decode cX9_burst 41 = .ok (.lstore 8, 2) := by decide +kernel
theorem dX9_burst_43 : decode cX9_burst 43 = .ok (.iconst 0, 1) := by decide +kernel
theorem dX9_burst_44 : decode cX9_burst 44 = .ok (.istore 10, 2) := by decide +kernel
theorem dX9_burst_46 : decode cX9_burst 46 = .ok (.iload 10, 2) := by decide +kernel
theorem dX9_burst_48 : decode cX9_burst 48 = .ok (.iload 6, 2) := by decide +kernel
theorem dX9_burst_50 : decode cX9_burst 50 = .ok (.if_icmp .ge 73, 3) := by decide +kernel
theorem dX9_burst_53 : decode cX9_burst 53 = .ok (.lload 8, 2) := by decide +kernel
theorem dX9_burst_55 : decode cX9_burst 55 = .ok (.lconst 0, 1) := by decide +kernel
theorem dX9_burst_56 : decode cX9_burst 56 = .ok (.lcmp, 1) := by decide +kernel
theorem dX9_burst_57 : decode cX9_burst 57 = .ok (.ifCond .lt 22, 3) := by decide +kernel
theorem dX9_burst_60 : decode cX9_burst 60 = .ok (.lload 8, 2) := by decide +kernel
theorem dX9_burst_62 : decode cX9_burst 62 = .ok (.ldc2_w 108, 3) := by decide +kernel
theorem dX9_burst_65 : decode cX9_burst 65 = .ok (.lcmp, 1) := by decide +kernel
theorem dX9_burst_66 : decode cX9_burst 66 = .ok (.ifCond .gt 13, 3) := by decide +kernel
theorem dX9_burst_69 : decode cX9_burst 69 = .ok (.aload_n 0, 1) := by decide +kernel
theorem dX9_burst_70 : decode cX9_burst 70 = .ok (.getfield 98, 3) := by decide +kernel
theorem dX9_burst_73 : decode cX9_burst 73 = .ok (.sipush 3000, 3) := by decide +kernel
theorem dX9_burst_76 : decode cX9_burst 76 = .ok (.if_icmp .lt 6, 3) := by decide +kernel
theorem dX9_burst_79 : decode cX9_burst 79 = .ok (.iload 10, 2) := by decide +kernel
theorem dX9_burst_81 : decode cX9_burst 81 = .ok (.ireturn, 1) := by decide +kernel
theorem dX9_burst_82 : decode cX9_burst 82 = .ok (.aload_n 0, 1) := by decide +kernel
theorem dX9_burst_83 : decode cX9_burst 83 = .ok (.dup, 1) := by decide +kernel
theorem dX9_burst_84 : decode cX9_burst 84 = .ok (.getfield 98, 3) := by decide +kernel
theorem dX9_burst_87 : decode cX9_burst 87 = .ok (.iconst 1, 1) := by decide +kernel
theorem dX9_burst_88 : decode cX9_burst 88 = .ok (.iadd, 1) := by decide +kernel
theorem dX9_burst_89 : decode cX9_burst 89 = .ok (.putfield 98, 3) := by decide +kernel
theorem dX9_burst_92 : decode cX9_burst 92 = .ok (.aload_n 0, 1) := by decide +kernel
theorem dX9_burst_93 : decode cX9_burst 93 = .ok (.iload_n 1, 1) := by decide +kernel
theorem dX9_burst_94 : decode cX9_burst 94 = .ok (.iload 7, 2) := by decide +kernel
theorem dX9_burst_96 : decode cX9_burst 96 = .ok (.lload 8, 2) := by decide +kernel
theorem dX9_burst_98 : decode cX9_burst 98 = .ok (.l2i, 1) := by decide +kernel
theorem dX9_burst_99 : decode cX9_burst 99 = .ok (.iload 5, 2) := by decide +kernel
theorem dX9_burst_101 : decode cX9_burst 101 = .ok (.i2l, 1) := by decide +kernel
theorem dX9_burst_102 : decode cX9_burst 102 = .ok (.iload 10, 2) := by decide +kernel
theorem dX9_burst_104 : decode cX9_burst 104 = .ok (.i2l, 1) := by decide +kernel
theorem dX9_burst_105 : decode cX9_burst 105 = .ok (.ladd, 1) := by decide +kernel
theorem dX9_burst_106 : decode cX9_burst 106 = .ok (.invokevirtual 101, 3) := by decide +kernel
theorem dX9_burst_109 : decode cX9_burst 109 = .ok (.lload 8, 2) := by decide +kernel
theorem dX9_burst_111 : decode cX9_burst 111 = .ok (.iload 4, 2) := by decide +kernel
theorem dX9_burst_113 : decode cX9_burst 113 = .ok (.i2l, 1) := by decide +kernel
theorem dX9_burst_114 : decode cX9_burst 114 = .ok (.ladd, 1) := by decide +kernel
theorem dX9_burst_115 : decode cX9_burst 115 = .ok (.lstore 8, 2) := by decide +kernel
theorem dX9_burst_117 : decode cX9_burst 117 = .ok (.iinc 10 1, 3) := by decide +kernel
theorem dX9_burst_120 : decode cX9_burst 120 = .ok (.goto (-74), 3) := by decide +kernel
theorem dX9_burst_123 : decode cX9_burst 123 = .ok (.iload 6, 2) := by decide +kernel
theorem dX9_burst_125 : decode cX9_burst 125 = .ok (.ireturn, 1) := by decide +kernel
theorem dX9_mark_0 : decode cX9_mark 0 = .ok (.aload_n 0, 1) := by decide +kernel
theorem dX9_mark_1 : decode cX9_mark 1 = .ok (.iload_n 1, 1) := by decide +kernel
theorem dX9_mark_2 : decode cX9_mark 2 = .ok (.invokevirtual 110, 3) := by decide +kernel
theorem dX9_mark_5 : decode cX9_mark 5 = .ok (.astore_n 3, 1) := by decide +kernel
theorem dX9_mark_6 : decode cX9_mark 6 = .ok (.aload_n 3, 1) := by decide +kernel
theorem dX9_mark_7 : decode cX9_mark 7 = .ok (.ifnull 13, 3) := by decide +kernel
theorem dX9_mark_10 : decode cX9_mark 10 = .ok (.iload_n 2, 1) := by decide +kernel
