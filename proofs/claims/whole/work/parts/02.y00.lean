theorem dX0_slot_0 : decode cX0_slot 0 = .ok (.iload_n 2, 1) := by decide +kernel
theorem dX0_slot_1 : decode cX0_slot 1 = .ok (.i2l, 1) := by decide +kernel
theorem dX0_slot_2 : decode cX0_slot 2 = .ok (.bipush 17, 2) := by decide +kernel
theorem dX0_slot_4 : decode cX0_slot 4 = .ok (.lshl, 1) := by decide +kernel
theorem dX0_slot_5 : decode cX0_slot 5 = .ok (.iload_n 1, 1) := by decide +kernel
theorem dX0_slot_6 : decode cX0_slot 6 = .ok (.sipush 10000, 3) := by decide +kernel
theorem dX0_slot_9 : decode cX0_slot 9 = .ok (.iadd, 1) := by decide +kernel
theorem dX0_slot_10 : decode cX0_slot 10 = .ok (.i2l, 1) := by decide +kernel
theorem dX0_slot_11 : decode cX0_slot 11 = .ok (.lor, 1) := by decide +kernel
theorem dX0_slot_12 : decode cX0_slot 12 = .ok (.bipush 10, 2) := by decide +kernel
theorem dX0_slot_14 : decode cX0_slot 14 = .ok (.lshl, 1) := by decide +kernel
theorem dX0_slot_15 : decode cX0_slot 15 = .ok (.iload_n 0, 1) := by decide +kernel
theorem dX0_slot_16 : decode cX0_slot 16 = .ok (.i2l, 1) := by decide +kernel
theorem dX0_slot_17 : decode cX0_slot 17 = .ok (.lor, 1) := by decide +kernel
theorem dX0_slot_18 : decode cX0_slot 18 = .ok (.lreturn, 1) := by decide +kernel
theorem dX0_keyOf_0 : decode cX0_keyOf 0 = .ok (.lload_n 0, 1) := by decide +kernel
theorem dX0_keyOf_1 : decode cX0_keyOf 1 = .ok (.l2i, 1) := by decide +kernel
theorem dX0_keyOf_2 : decode cX0_keyOf 2 = .ok (.sipush 1023, 3) := by decide +kernel
theorem dX0_keyOf_5 : decode cX0_keyOf 5 = .ok (.iand, 1) := by decide +kernel
theorem dX0_keyOf_6 : decode cX0_keyOf 6 = .ok (.ireturn, 1) := by decide +kernel
theorem dX0_beginOf_0 : decode cX0_beginOf 0 = .ok (.lload_n 0, 1) := by decide +kernel
theorem dX0_beginOf_1 : decode cX0_beginOf 1 = .ok (.bipush 10, 2) := by decide +kernel
theorem dX0_beginOf_3 : decode cX0_beginOf 3 = .ok (.lshr, 1) := by decide +kernel
theorem dX0_beginOf_4 : decode cX0_beginOf 4 = .ok (.l2i, 1) := by decide +kernel
theorem dX0_beginOf_5 : decode cX0_beginOf 5 = .ok (.ldc 11, 2) := by decide +kernel
theorem dX0_beginOf_7 : decode cX0_beginOf 7 = .ok (.iand, 1) := by decide +kernel
theorem dX0_beginOf_8 : decode cX0_beginOf 8 = .ok (.sipush 10000, 3) := by decide +kernel
theorem dX0_beginOf_11 : decode cX0_beginOf 11 = .ok (.isub, 1) := by decide +kernel
theorem dX0_beginOf_12 : decode cX0_beginOf 12 = .ok (.ireturn, 1) := by decide +kernel
theorem dX0_endOf_0 : decode cX0_endOf 0 = .ok (.lload_n 0, 1) := by decide +kernel
theorem dX0_endOf_1 : decode cX0_endOf 1 = .ok (.bipush 27, 2) := by decide +kernel
theorem dX0_endOf_3 : decode cX0_endOf 3 = .ok (.lshr, 1) := by decide +kernel
theorem dX0_endOf_4 : decode cX0_endOf 4 = .ok (.l2i, 1) := by decide +kernel
theorem dX0_endOf_5 : decode cX0_endOf 5 = .ok (.ireturn, 1) := by decide +kernel
theorem dX0_put_0 : decode cX0_put 0 = .ok (.lload_n 0, 1) := by decide +kernel
theorem dX0_put_1 : decode cX0_put 1 = .ok (.iconst 4, 1) := by decide +kernel
theorem dX0_put_2 : decode cX0_put 2 = .ok (.lshl, 1) := by decide +kernel
theorem dX0_put_3 : decode cX0_put 3 = .ok (.iload_n 2, 1) := by decide +kernel
theorem dX0_put_4 : decode cX0_put 4 = .ok (.i2l, 1) := by decide +kernel
theorem dX0_put_5 : decode cX0_put 5 = .ok (.lor, 1) := by decide +kernel
theorem dX0_put_6 : decode cX0_put 6 = .ok (.iconst 1, 1) := by decide +kernel
theorem dX0_put_7 : decode cX0_put 7 = .ok (.lshl, 1) := by decide +kernel
theorem dX0_put_8 : decode cX0_put 8 = .ok (.lreturn, 1) := by decide +kernel
theorem dX0_back_0 : decode cX0_back 0 = .ok (.lload_n 0, 1) := by decide +kernel
theorem dX0_back_1 : decode cX0_back 1 = .ok (.lconst 1, 1) := by decide +kernel
theorem dX0_back_2 : decode cX0_back 2 = .ok (.lor, 1) := by decide +kernel
theorem dX0_back_3 : decode cX0_back 3 = .ok (.lreturn, 1) := by decide +kernel
theorem dX0_isBack_0 : decode cX0_isBack 0 = .ok (.lload_n 0, 1) := by decide +kernel
theorem dX0_isBack_1 : decode cX0_isBack 1 = .ok (.lconst 1, 1) := by decide +kernel
theorem dX0_isBack_2 : decode cX0_isBack 2 = .ok (.land, 1) := by decide +kernel
theorem dX0_isBack_3 : decode cX0_isBack 3 = .ok (.lconst 0, 1) := by decide +kernel
theorem dX0_isBack_4 : decode cX0_isBack 4 = .ok (.lcmp, 1) := by decide +kernel
theorem dX0_isBack_5 : decode cX0_isBack 5 = .ok (.ifCond .eq 7, 3) := by decide +kernel
theorem dX0_isBack_8 : decode cX0_isBack 8 = .ok (.iconst 1, 1) := by decide +kernel
theorem dX0_isBack_9 : decode cX0_isBack 9 = .ok (.goto 4, 3) := by decide +kernel
theorem dX0_isBack_12 : decode cX0_isBack 12 = .ok (.iconst 0, 1) := by decide +kernel
theorem dX0_isBack_13 : decode cX0_isBack 13 = .ok (.ireturn, 1) := by decide +kernel
theorem dX0_stageOf_0 : decode cX0_stageOf 0 = .ok (.lload_n 0, 1) := by decide +kernel
theorem dX0_stageOf_1 : decode cX0_stageOf 1 = .ok (.iconst 1, 1) := by decide +kernel
theorem dX0_stageOf_2 : decode cX0_stageOf 2 = .ok (.lshr, 1) := by decide +kernel
theorem dX0_stageOf_3 : decode cX0_stageOf 3 = .ok (.l2i, 1) := by decide +kernel
theorem dX0_stageOf_4 : decode cX0_stageOf 4 = .ok (.bipush 15, 2) := by decide +kernel
theorem dX0_stageOf_6 : decode cX0_stageOf 6 = .ok (.iand, 1) := by decide +kernel
theorem dX0_stageOf_7 : decode cX0_stageOf 7 = .ok (.ireturn, 1) := by decide +kernel
theorem dX0_slotOf_0 : decode cX0_slotOf 0 = .ok (.lload_n 0, 1) := by decide +kernel
theorem dX0_slotOf_1 : decode cX0_slotOf 1 = .ok (.iconst 5, 1) := by decide +kernel
theorem dX0_slotOf_2 : decode cX0_slotOf 2 = .ok (.lshr, 1) := by decide +kernel
theorem dX0_slotOf_3 : decode cX0_slotOf 3 = .ok (.lreturn, 1) := by decide +kernel
theorem dX1_init_0 : decode cX1_init 0 = .ok (.aload_n 0, 1) := by decide +kernel
theorem dX1_init_1 : decode cX1_init 1 = .ok (.invokespecial 3, 3) := by decide +kernel
theorem dX1_init_4 : decode cX1_init 4 = .ok (.aload_n 0, 1) := by decide +kernel
theorem dX1_init_5 : decode cX1_init 5 = .ok (.new 9, 3) := by decide +kernel
theorem dX1_init_8 : decode cX1_init 8 = .ok (.dup, 1) := by decide +kernel
theorem dX1_init_9 : decode cX1_init 9 = .ok (.invokespecial 11, 3) := by decide +kernel
theorem dX1_init_12 : decode cX1_init 12 = .ok (.putfield 12, 3) := by decide +kernel
theorem dX1_init_15 : decode cX1_init 15 = .ok (.return_, 1) := by decide +kernel
theorem dX1_at_0 : decode cX1_at 0 = .ok (.iload_n 1, 1) := by decide +kernel
theorem dX1_at_1 : decode cX1_at 1 = .ok (.ifCond .lt 28, 3) := by decide +kernel
theorem dX1_at_4 : decode cX1_at 4 = .ok (.iload_n 1, 1) := by decide +kernel
theorem dX1_at_5 : decode cX1_at 5 = .ok (.aload_n 0, 1) := by decide +kernel
theorem dX1_at_6 : decode cX1_at 6 = .ok (.getfield 12, 3) := by decide +kernel
theorem dX1_at_9 : decode cX1_at 9 = .ok (.invokevirtual 18, 3) := by decide +kernel
theorem dX1_at_12 : decode cX1_at 12 = .ok (.if_icmp .ge 17, 3) := by decide +kernel
theorem dX1_at_15 : decode cX1_at 15 = .ok (.aload_n 0, 1) := by decide +kernel
theorem dX1_at_16 : decode cX1_at 16 = .ok (.getfield 12, 3) := by decide +kernel
theorem dX1_at_19 : decode cX1_at 19 = .ok (.iload_n 1, 1) := by decide +kernel
theorem dX1_at_20 : decode cX1_at 20 = .ok (.invokevirtual 22, 3) := by decide +kernel
theorem dX1_at_23 : decode cX1_at 23 = .ok (.checkcast 26, 3) := by decide +kernel
theorem dX1_at_26 : decode cX1_at 26 = .ok (.goto 4, 3) := by decide +kernel
theorem dX1_at_29 : decode cX1_at 29 = .ok (.aconst_null, 1) := by decide +kernel
theorem dX1_at_30 : decode cX1_at 30 = .ok (.areturn, 1) := by decide +kernel
theorem dX1_insert_0 : decode cX1_insert 0 = .ok (.iload_n 1, 1) := by decide +kernel
theorem dX1_insert_1 : decode cX1_insert 1 = .ok (.ifCond .lt 23, 3) := by decide +kernel
theorem dX1_insert_4 : decode cX1_insert 4 = .ok (.iload_n 1, 1) := by decide +kernel
theorem dX1_insert_5 : decode cX1_insert 5 = .ok (.aload_n 0, 1) := by decide +kernel
theorem dX1_insert_6 : decode cX1_insert 6 = .ok (.getfield 12, 3) := by decide +kernel
theorem dX1_insert_9 : decode cX1_insert 9 = .ok (.invokevirtual 18, 3) := by decide +kernel
theorem dX1_insert_12 : decode cX1_insert 12 = .ok (.if_icmp .gt 12, 3) := by decide +kernel
theorem dX1_insert_15 : decode cX1_insert 15 = .ok (.aload_n 0, 1) := by decide +kernel
theorem dX1_insert_16 : decode cX1_insert 16 = .ok (.getfield 12, 3) := by decide +kernel
theorem dX1_insert_19 : decode cX1_insert 19 = .ok (.iload_n 1, 1) := by decide +kernel
theorem dX1_insert_20 : decode cX1_insert 20 = .ok (.aload_n 2, 1) := by decide +kernel
theorem dX1_insert_21 : decode cX1_insert 21 = .ok (.invokevirtual 28, 3) := by decide +kernel
theorem dX1_insert_24 : decode cX1_insert 24 = .ok (.return_, 1) := by decide +kernel
theorem dX1_removeAt_0 : decode cX1_removeAt 0 = .ok (.iload_n 1, 1) := by decide +kernel
theorem dX1_removeAt_1 : decode cX1_removeAt 1 = .ok (.ifCond .lt 23, 3) := by decide +kernel
theorem dX1_removeAt_4 : decode cX1_removeAt 4 = .ok (.iload_n 1, 1) := by decide +kernel
theorem dX1_removeAt_5 : decode cX1_removeAt 5 = .ok (.aload_n 0, 1) := by decide +kernel
theorem dX1_removeAt_6 : decode cX1_removeAt 6 = .ok (.getfield 12, 3) := by decide +kernel
theorem dX1_removeAt_9 : decode cX1_removeAt 9 = .ok (.invokevirtual 18, 3) := by decide +kernel
theorem dX1_removeAt_12 : decode cX1_removeAt 12 = .ok (.if_icmp .ge 12, 3) := by decide +kernel
theorem dX1_removeAt_15 : decode cX1_removeAt 15 = .ok (.aload_n 0, 1) := by decide +kernel
theorem dX1_removeAt_16 : decode cX1_removeAt 16 = .ok (.getfield 12, 3) := by decide +kernel
theorem dX1_removeAt_19 : decode cX1_removeAt 19 = .ok (.iload_n 1, 1) := by decide +kernel
theorem dX1_removeAt_20 : decode cX1_removeAt 20 = .ok (.invokevirtual 32, 3) := by decide +kernel
theorem dX1_removeAt_23 : decode cX1_removeAt 23 = .ok (.pop, 1) := by decide +kernel
theorem dX1_removeAt_24 : decode cX1_removeAt 24 = .ok (.return_, 1) := by decide +kernel
theorem dX1_firstEnding_0 : decode cX1_firstEnding 0 = .ok (.iconst 0, 1) := by decide +kernel
theorem dX1_firstEnding_1 : decode cX1_firstEnding 1 = .ok (.istore_n 2, 1) := by decide +kernel
theorem dX1_firstEnding_2 : decode cX1_firstEnding 2 = .ok (.aload_n 0, 1) := by decide +kernel
theorem dX1_firstEnding_3 : decode cX1_firstEnding 3 = .ok (.getfield 12, 3) := by decide +kernel
theorem dX1_firstEnding_6 : decode cX1_firstEnding 6 = .ok (.invokevirtual 18, 3) := by decide +kernel
theorem dX1_firstEnding_9 : decode cX1_firstEnding 9 = .ok (.istore_n 3, 1) := by decide +kernel
theorem dX1_firstEnding_10 : decode cX1_firstEnding 10 = .ok (.iload_n 2, 1) := by decide +kernel
theorem dX1_firstEnding_11 : decode cX1_firstEnding 11 = .ok (.iload_n 3, 1) := by decide +kernel
theorem dX1_firstEnding_12 : decode cX1_firstEnding 12 = .ok (.if_icmp .ge 43, 3) := by decide +kernel
theorem dX1_firstEnding_15 : decode cX1_firstEnding 15 = .ok (.iload_n 2, 1) := by decide +kernel
theorem dX1_firstEnding_16 : decode cX1_firstEnding 16 = .ok (.iload_n 3, 1) := by decide +kernel
theorem dX1_firstEnding_17 : decode cX1_firstEnding 17 = .ok (.iadd, 1) := by decide +kernel
theorem dX1_firstEnding_18 : decode cX1_firstEnding 18 = .ok (.iconst 2, 1) := by decide +kernel
theorem dX1_firstEnding_19 : decode cX1_firstEnding 19 = .ok (.idiv, 1) := by decide +kernel
theorem dX1_firstEnding_20 : decode cX1_firstEnding 20 = .ok (.istore 4, 2) := by decide +kernel
theorem dX1_firstEnding_22 : decode cX1_firstEnding 22 = .ok (.aload_n 0, 1) := by decide +kernel
theorem dX1_firstEnding_23 : decode cX1_firstEnding 23 = .ok (.getfield 12, 3) := by decide +kernel
theorem dX1_firstEnding_26 : decode cX1_firstEnding 26 = .ok (.iload 4, 2) := by decide +kernel
theorem dX1_firstEnding_28 : decode cX1_firstEnding 28 = .ok (.invokevirtual 22, 3) := by decide +kernel
theorem dX1_firstEnding_31 : decode cX1_firstEnding 31 = .ok (.checkcast 26, 3) := by decide +kernel
theorem dX1_firstEnding_34 : decode cX1_firstEnding 34 = .ok (.getfield 35, 3) := by decide +kernel
theorem dX1_firstEnding_37 : decode cX1_firstEnding 37 = .ok (.iload_n 1, 1) := by decide +kernel
theorem dX1_firstEnding_38 : decode cX1_firstEnding 38 = .ok (.if_icmp .ge 11, 3) := by decide +kernel
theorem dX1_firstEnding_41 : decode cX1_firstEnding 41 = .ok (.iload 4, 2) := by decide +kernel
theorem dX1_firstEnding_43 : decode cX1_firstEnding 43 = .ok (.iconst 1, 1) := by decide +kernel
theorem dX1_firstEnding_44 : decode cX1_firstEnding 44 = .ok (.iadd, 1) := by decide +kernel
theorem dX1_firstEnding_45 : decode cX1_firstEnding 45 = .ok (.istore_n 2, 1) := by decide +kernel
theorem dX1_firstEnding_46 : decode cX1_firstEnding 46 = .ok (.goto 6, 3) := by decide +kernel
theorem dX1_firstEnding_49 : decode cX1_firstEnding 49 = .ok (.iload 4, 2) := by decide +kernel
theorem dX1_firstEnding_51 : decode cX1_firstEnding 51 = .ok (.istore_n 3, 1) := by decide +kernel
theorem dX1_firstEnding_52 : decode cX1_firstEnding 52 = .ok (.goto (-42), 3) := by decide +kernel
theorem dX1_firstEnding_55 : decode cX1_firstEnding 55 = .ok (.iload_n 2, 1) := by decide +kernel
theorem dX1_firstEnding_56 : decode cX1_firstEnding 56 = .ok (.ireturn, 1) := by decide +kernel
theorem dX1_rowLeft_0 : decode cX1_rowLeft 0 = .ok (.iload_n 1, 1) := by decide +kernel
theorem dX1_rowLeft_1 : decode cX1_rowLeft 1 = .ok (.istore_n 2, 1) := by decide +kernel
theorem dX1_rowLeft_2 : decode cX1_rowLeft 2 = .ok (.iconst 0, 1) := by decide +kernel
theorem dX1_rowLeft_3 : decode cX1_rowLeft 3 = .ok (.istore_n 3, 1) := by decide +kernel
theorem dX1_rowLeft_4 : decode cX1_rowLeft 4 = .ok (.iload_n 3, 1) := by decide +kernel
theorem dX1_rowLeft_5 : decode cX1_rowLeft 5 = .ok (.aload_n 0, 1) := by decide +kernel
theorem dX1_rowLeft_6 : decode cX1_rowLeft 6 = .ok (.getfield 12, 3) := by decide +kernel
theorem dX1_rowLeft_9 : decode cX1_rowLeft 9 = .ok (.invokevirtual 18, 3) := by decide +kernel
theorem dX1_rowLeft_12 : decode cX1_rowLeft 12 = .ok (.if_icmp .ge 41, 3) := by decide +kernel
theorem dX1_rowLeft_15 : decode cX1_rowLeft 15 = .ok (.aload_n 0, 1) := by decide +kernel
theorem dX1_rowLeft_16 : decode cX1_rowLeft 16 = .ok (.getfield 12, 3) := by decide +kernel
theorem dX1_rowLeft_19 : decode cX1_rowLeft 19 = .ok (.iload_n 3, 1) := by decide +kernel
theorem dX1_rowLeft_20 : decode cX1_rowLeft 20 = .ok (.invokevirtual 22, 3) := by decide +kernel
theorem dX1_rowLeft_23 : decode cX1_rowLeft 23 = .ok (.checkcast 26, 3) := by decide +kernel
theorem dX1_rowLeft_26 : decode cX1_rowLeft 26 = .ok (.getfield 39, 3) := by decide +kernel
theorem dX1_rowLeft_29 : decode cX1_rowLeft 29 = .ok (.istore 4, 2) := by decide +kernel
theorem dX1_rowLeft_31 : decode cX1_rowLeft 31 = .ok (.iload 4, 2) := by decide +kernel
theorem dX1_rowLeft_33 : decode cX1_rowLeft 33 = .ok (.iconst (-1), 1) := by decide +kernel
theorem dX1_rowLeft_34 : decode cX1_rowLeft 34 = .ok (.if_icmp .eq 13, 3) := by decide +kernel
theorem dX1_rowLeft_37 : decode cX1_rowLeft 37 = .ok (.iload_n 2, 1) := by decide +kernel
theorem dX1_rowLeft_38 : decode cX1_rowLeft 38 = .ok (.iinc 2 (-1), 3) := by decide +kernel
theorem dX1_rowLeft_41 : decode cX1_rowLeft 41 = .ok (.ifCond .ne 6, 3) := by decide +kernel
theorem dX1_rowLeft_44 : decode cX1_rowLeft 44 = .ok (.iload 4, 2) := by decide +kernel
theorem dX1_rowLeft_46 : decode cX1_rowLeft 46 = .ok (.ireturn, 1) := by decide +kernel
theorem dX1_rowLeft_47 : decode cX1_rowLeft 47 = .ok (.iinc 3 1, 3) := by decide +kernel
theorem dX1_rowLeft_50 : decode cX1_rowLeft 50 = .ok (.goto (-46), 3) := by decide +kernel
theorem dX1_rowLeft_53 : decode cX1_rowLeft 53 = .ok (.iconst (-1), 1) := by decide +kernel
theorem dX1_rowLeft_54 : decode cX1_rowLeft 54 = .ok (.ireturn, 1) := by decide +kernel
theorem dX2_init_0 : decode cX2_init 0 = .ok (.aload_n 0, 1) := by decide +kernel
theorem dX2_init_1 : decode cX2_init 1 = .ok (.invokespecial 1, 3) := by decide +kernel
theorem dX2_init_4 : decode cX2_init 4 = .ok (.aload_n 0, 1) := by decide +kernel
theorem dX2_init_5 : decode cX2_init 5 = .ok (.bipush 16, 2) := by decide +kernel
theorem dX2_init_7 : decode cX2_init 7 = .ok (.newarray .long, 2) := by decide +kernel
theorem dX2_init_9 : decode cX2_init 9 = .ok (.putfield 9, 3) := by decide +kernel
theorem dX2_init_12 : decode cX2_init 12 = .ok (.return_, 1) := by decide +kernel
theorem dX2_add_0 : decode cX2_add 0 = .ok (.aload_n 0, 1) := by decide +kernel
theorem dX2_add_1 : decode cX2_add 1 = .ok (.getfield 13, 3) := by decide +kernel
theorem dX2_add_4 : decode cX2_add 4 = .ok (.aload_n 0, 1) := by decide +kernel
theorem dX2_add_5 : decode cX2_add 5 = .ok (.getfield 9, 3) := by decide +kernel
theorem dX2_add_8 : decode cX2_add 8 = .ok (.arraylength, 1) := by decide +kernel
theorem dX2_add_9 : decode cX2_add 9 = .ok (.if_icmp .lt 20, 3) := by decide +kernel
theorem dX2_add_12 : decode cX2_add 12 = .ok (.aload_n 0, 1) := by decide +kernel
theorem dX2_add_13 : decode cX2_add 13 = .ok (.aload_n 0, 1) := by decide +kernel
theorem dX2_add_14 : decode cX2_add 14 = .ok (.getfield 9, 3) := by decide +kernel
theorem dX2_add_17 : decode cX2_add 17 = .ok (.iconst 2, 1) := by decide +kernel
theorem dX2_add_18 : decode cX2_add 18 = .ok (.aload_n 0, 1) := by decide +kernel
theorem dX2_add_19 : decode cX2_add 19 = .ok (.getfield 13, 3) := by decide +kernel
theorem dX2_add_22 : decode cX2_add 22 = .ok (.imul, 1) := by decide +kernel
theorem dX2_add_23 : decode cX2_add 23 = .ok (.invokestatic 17, 3) := by decide +kernel
theorem dX2_add_26 : decode cX2_add 26 = .ok (.putfield 9, 3) := by decide +kernel
theorem dX2_add_29 : decode cX2_add 29 = .ok (.aload_n 0, 1) := by decide +kernel
theorem dX2_add_30 : decode cX2_add 30 = .ok (.getfield 13, 3) := by decide +kernel
theorem dX2_add_33 : decode cX2_add 33 = .ok (.istore_n 3, 1) := by decide +kernel
theorem dX2_add_34 : decode cX2_add 34 = .ok (.aload_n 0, 1) := by decide +kernel
theorem dX2_add_35 : decode cX2_add 35 = .ok (.dup, 1) := by decide +kernel
theorem dX2_add_36 : decode cX2_add 36 = .ok (.getfield 13, 3) := by decide +kernel
theorem dX2_add_39 : decode cX2_add 39 = .ok (.iconst 1, 1) := by decide +kernel
theorem dX2_add_40 : decode cX2_add 40 = .ok (.iadd, 1) := by decide +kernel
theorem dX2_add_41 : decode cX2_add 41 = .ok (.putfield 13, 3) := by decide +kernel
theorem dX2_add_44 : decode cX2_add 44 = .ok (.iload_n 3, 1) := by decide +kernel
theorem dX2_add_45 : decode cX2_add 45 = .ok (.ifCond .le 43, 3) := by decide +kernel
theorem dX2_add_48 : decode cX2_add 48 = .ok (.aload_n 0, 1) := by decide +kernel
theorem dX2_add_49 : decode cX2_add 49 = .ok (.getfield 9, 3) := by decide +kernel
theorem dX2_add_52 : decode cX2_add 52 = .ok (.iload_n 3, 1) := by decide +kernel
theorem dX2_add_53 : decode cX2_add 53 = .ok (.iconst 1, 1) := by decide +kernel
theorem dX2_add_54 : decode cX2_add 54 = .ok (.isub, 1) := by decide +kernel
theorem dX2_add_55 : decode cX2_add 55 = .ok (.iconst 2, 1) := by decide +kernel
theorem dX2_add_56 : decode cX2_add 56 = .ok (.idiv, 1) := by decide +kernel
theorem dX2_add_57 : decode cX2_add 57 = .ok (.laload, 1) := by decide +kernel
theorem dX2_add_58 : decode cX2_add 58 = .ok (.lload_n 1, 1) := by decide +kernel
theorem dX2_add_59 : decode cX2_add 59 = .ok (.lcmp, 1) := by decide +kernel
theorem dX2_add_60 : decode cX2_add 60 = .ok (.ifCond .le 28, 3) := by decide +kernel
theorem dX2_add_63 : decode cX2_add 63 = .ok (.aload_n 0, 1) := by decide +kernel
theorem dX2_add_64 : decode cX2_add 64 = .ok (.getfield 9, 3) := by decide +kernel
theorem dX2_add_67 : decode cX2_add 67 = .ok (.iload_n 3, 1) := by decide +kernel
theorem dX2_add_68 : decode cX2_add 68 = .ok (.aload_n 0, 1) := by decide +kernel
theorem dX2_add_69 : decode cX2_add 69 = .ok (.getfield 9, 3) := by decide +kernel
theorem dX2_add_72 : decode cX2_add 72 = .ok (.iload_n 3, 1) := by decide +kernel
theorem dX2_add_73 : decode cX2_add 73 = .ok (.iconst 1, 1) := by decide +kernel
theorem dX2_add_74 : decode cX2_add 74 = .ok (.isub, 1) := by decide +kernel
theorem dX2_add_75 : decode cX2_add 75 = .ok (.iconst 2, 1) := by decide +kernel
theorem dX2_add_76 : decode cX2_add 76 = .ok (.idiv, 1) := by decide +kernel
theorem dX2_add_77 : decode cX2_add 77 = .ok (.laload, 1) := by decide +kernel
theorem dX2_add_78 : decode cX2_add 78 = .ok (.lastore, 1) := by decide +kernel
theorem dX2_add_79 : decode cX2_add 79 = .ok (.iload_n 3, 1) := by decide +kernel
theorem dX2_add_80 : decode cX2_add 80 = .ok (.iconst 1, 1) := by decide +kernel
theorem dX2_add_81 : decode cX2_add 81 = .ok (.isub, 1) := by decide +kernel
theorem dX2_add_82 : decode cX2_add 82 = .ok (.iconst 2, 1) := by decide +kernel
theorem dX2_add_83 : decode cX2_add 83 = .ok (.idiv, 1) := by decide +kernel
theorem dX2_add_84 : decode cX2_add 84 = .ok (.istore_n 3, 1) := by decide +kernel
theorem dX2_add_85 : decode cX2_add 85 = .ok (.goto (-41), 3) := by decide +kernel
theorem dX2_add_88 : decode cX2_add 88 = .ok (.aload_n 0, 1) := by decide +kernel
theorem dX2_add_89 : decode cX2_add 89 = .ok (.getfield 9, 3) := by decide +kernel
theorem dX2_add_92 : decode cX2_add 92 = .ok (.iload_n 3, 1) := by decide +kernel
theorem dX2_add_93 : decode cX2_add 93 = .ok (.lload_n 1, 1) := by decide +kernel
theorem dX2_add_94 : decode cX2_add 94 = .ok (.lastore, 1) := by decide +kernel
theorem dX2_add_95 : decode cX2_add 95 = .ok (.return_, 1) := by decide +kernel
theorem dX2_least_0 : decode cX2_least 0 = .ok (.aload_n 0, 1) := by decide +kernel
theorem dX2_least_1 : decode cX2_least 1 = .ok (.getfield 9, 3) := by decide +kernel
theorem dX2_least_4 : decode cX2_least 4 = .ok (.iconst 0, 1) := by decide +kernel
theorem dX2_least_5 : decode cX2_least 5 = .ok (.laload, 1) := by decide +kernel
theorem dX2_least_6 : decode cX2_least 6 = .ok (.lreturn, 1) := by decide +kernel
theorem dX2_takeLeast_0 : decode cX2_takeLeast 0 = .ok (.aload_n 0, 1) := by decide +kernel
theorem dX2_takeLeast_1 : decode cX2_takeLeast 1 = .ok (.getfield 13, 3) := by decide +kernel
theorem dX2_takeLeast_4 : decode cX2_takeLeast 4 = .ok (.ifCond .ne 5, 3) := by decide +kernel
theorem dX2_takeLeast_7 : decode cX2_takeLeast 7 = .ok (.lconst 0, 1) := by decide +kernel
theorem dX2_takeLeast_8 : decode cX2_takeLeast 8 = .ok (.lreturn, 1) := by decide +kernel
theorem dX2_takeLeast_9 : decode cX2_takeLeast 9 = .ok (.aload_n 0, 1) := by decide +kernel
theorem dX2_takeLeast_10 : decode cX2_takeLeast 10 = .ok (.getfield 9, 3) := by decide +kernel
theorem dX2_takeLeast_13 : decode cX2_takeLeast 13 = .ok (.iconst 0, 1) := by decide +kernel
theorem dX2_takeLeast_14 : decode cX2_takeLeast 14 = .ok (.laload, 1) := by decide +kernel
theorem dX2_takeLeast_15 : decode cX2_takeLeast 15 = .ok (.lstore_n 1, 1) := by decide +kernel
theorem dX2_takeLeast_16 : decode cX2_takeLeast 16 = .ok (.aload_n 0, 1) := by decide +kernel
theorem dX2_takeLeast_17 : decode cX2_takeLeast 17 = .ok (.dup, 1) := by decide +kernel
theorem dX2_takeLeast_18 : decode cX2_takeLeast 18 = .ok (.getfield 13, 3) := by decide +kernel
theorem dX2_takeLeast_21 : decode cX2_takeLeast 21 = .ok (.iconst 1, 1) := by decide +kernel
theorem dX2_takeLeast_22 : decode cX2_takeLeast 22 = .ok (.isub, 1) := by decide +kernel
theorem dX2_takeLeast_23 : decode cX2_takeLeast 23 = .ok (.putfield 13, 3) := by decide +kernel
theorem dX2_takeLeast_26 : decode cX2_takeLeast 26 = .ok (.aload_n 0, 1) := by decide +kernel
theorem dX2_takeLeast_27 : decode cX2_takeLeast 27 = .ok (.getfield 9, 3) := by decide +kernel
theorem dX2_takeLeast_30 : decode cX2_takeLeast 30 = .ok (.aload_n 0, 1) := by decide +kernel
theorem dX2_takeLeast_31 : decode cX2_takeLeast 31 = .ok (.getfield 13, 3) := by decide +kernel
theorem dX2_takeLeast_34 : decode cX2_takeLeast 34 = .ok (.laload, 1) := by decide +kernel
theorem dX2_takeLeast_35 : decode cX2_takeLeast 35 = .ok (.lstore_n 3, 1) := by decide +kernel
theorem dX2_takeLeast_36 : decode cX2_takeLeast 36 = .ok (.iconst 0, 1) := by decide +kernel
theorem dX2_takeLeast_37 : decode cX2_takeLeast 37 = .ok (.istore 5, 2) := by decide +kernel
theorem dX2_takeLeast_39 : decode cX2_takeLeast 39 = .ok (.iconst 1, 1) := by decide +kernel
theorem dX2_takeLeast_40 : decode cX2_takeLeast 40 = .ok (.istore 6, 2) := by decide +kernel
theorem dX2_takeLeast_42 : decode cX2_takeLeast 42 = .ok (.iload 6, 2) := by decide +kernel
theorem dX2_takeLeast_44 : decode cX2_takeLeast 44 = .ok (.aload_n 0, 1) := by decide +kernel
theorem dX2_takeLeast_45 : decode cX2_takeLeast 45 = .ok (.getfield 13, 3) := by decide +kernel
theorem dX2_takeLeast_48 : decode cX2_takeLeast 48 = .ok (.if_icmp .ge 81, 3) := by decide +kernel
theorem dX2_takeLeast_51 : decode cX2_takeLeast 51 = .ok (.iload 6, 2) := by decide +kernel
theorem dX2_takeLeast_53 : decode cX2_takeLeast 53 = .ok (.iconst 1, 1) := by decide +kernel
theorem dX2_takeLeast_54 : decode cX2_takeLeast 54 = .ok (.iadd, 1) := by decide +kernel
theorem dX2_takeLeast_55 : decode cX2_takeLeast 55 = .ok (.aload_n 0, 1) := by decide +kernel
theorem dX2_takeLeast_56 : decode cX2_takeLeast 56 = .ok (.getfield 13, 3) := by decide +kernel
theorem dX2_takeLeast_59 : decode cX2_takeLeast 59 = .ok (.if_icmp .ge 26, 3) := by decide +kernel
theorem dX2_takeLeast_62 : decode cX2_takeLeast 62 = .ok (.aload_n 0, 1) := by decide +kernel
theorem dX2_takeLeast_63 : decode cX2_takeLeast 63 = .ok (.getfield 9, 3) := by decide +kernel
theorem dX2_takeLeast_66 : decode cX2_takeLeast 66 = .ok (.iload 6, 2) := by decide +kernel
theorem dX2_takeLeast_68 : decode cX2_takeLeast 68 = .ok (.iconst 1, 1) := by decide +kernel
theorem dX2_takeLeast_69 : decode cX2_takeLeast 69 = .ok (.iadd, 1) := by decide +kernel
theorem dX2_takeLeast_70 : decode cX2_takeLeast 70 = .ok (.laload, 1) := by decide +kernel
theorem dX2_takeLeast_71 : decode cX2_takeLeast 71 = .ok (.aload_n 0, 1) := by decide +kernel
theorem dX2_takeLeast_72 : decode cX2_takeLeast 72 = .ok (.getfield 9, 3) := by decide +kernel
theorem dX2_takeLeast_75 : decode cX2_takeLeast 75 = .ok (.iload 6, 2) := by decide +kernel
theorem dX2_takeLeast_77 : decode cX2_takeLeast 77 = .ok (.laload, 1) := by decide +kernel
theorem dX2_takeLeast_78 : decode cX2_takeLeast 78 = .ok (.lcmp, 1) := by decide +kernel
theorem dX2_takeLeast_79 : decode cX2_takeLeast 79 = .ok (.ifCond .ge 6, 3) := by decide +kernel
theorem dX2_takeLeast_82 : decode cX2_takeLeast 82 = .ok (.iinc 6 1, 3) := by decide +kernel
theorem dX2_takeLeast_85 : decode cX2_takeLeast 85 = .ok (.aload_n 0, 1) := by decide +kernel
theorem dX2_takeLeast_86 : decode cX2_takeLeast 86 = .ok (.getfield 9, 3) := by decide +kernel
theorem dX2_takeLeast_89 : decode cX2_takeLeast 89 = .ok (.iload 6, 2) := by decide +kernel
theorem dX2_takeLeast_91 : decode cX2_takeLeast 91 = .ok (.laload, 1) := by decide +kernel
theorem dX2_takeLeast_92 : decode cX2_takeLeast 92 = .ok (.lload_n 3, 1) := by decide +kernel
theorem dX2_takeLeast_93 : decode cX2_takeLeast 93 = .ok (.lcmp, 1) := by decide +kernel
theorem dX2_takeLeast_94 : decode cX2_takeLeast 94 = .ok (.ifCond .lt 6, 3) := by decide +kernel
theorem dX2_takeLeast_97 : decode cX2_takeLeast 97 = .ok (.goto 32, 3) := by decide +kernel
theorem dX2_takeLeast_100 : decode cX2_takeLeast 100 = .ok (.aload_n 0, 1) := by decide +kernel
theorem dX2_takeLeast_101 : decode cX2_takeLeast 101 = .ok (.getfield 9, 3) := by decide +kernel
theorem dX2_takeLeast_104 : decode cX2_takeLeast 104 = .ok (.iload 5, 2) := by decide +kernel
theorem dX2_takeLeast_106 : decode cX2_takeLeast 106 = .ok (.aload_n 0, 1) := by decide +kernel
theorem dX2_takeLeast_107 : decode cX2_takeLeast 107 = .ok (.getfield 9, 3) := by decide +kernel
theorem dX2_takeLeast_110 : decode cX2_takeLeast 110 = .ok (.iload 6, 2) := by decide +kernel
theorem dX2_takeLeast_112 : decode cX2_takeLeast 112 = .ok (.laload, 1) := by decide +kernel
theorem dX2_takeLeast_113 : decode cX2_takeLeast 113 = .ok (.lastore, 1) := by decide +kernel
theorem dX2_takeLeast_114 : decode cX2_takeLeast 114 = .ok (.iload 6, 2) := by decide +kernel
theorem dX2_takeLeast_116 : decode cX2_takeLeast 116 = .ok (.istore 5, 2) := by decide +kernel
theorem dX2_takeLeast_118 : decode cX2_takeLeast 118 = .ok (.iconst 2, 1) := by decide +kernel
theorem dX2_takeLeast_119 : decode cX2_takeLeast 119 = .ok (.iload 5, 2) := by decide +kernel
theorem dX2_takeLeast_121 : decode cX2_takeLeast 121 = .ok (.imul, 1) := by decide +kernel
theorem dX2_takeLeast_122 : decode cX2_takeLeast 122 = .ok (.iconst 1, 1) := by decide +kernel
theorem dX2_takeLeast_123 : decode cX2_takeLeast 123 = .ok (.iadd, 1) := by decide +kernel
theorem dX2_takeLeast_124 : decode cX2_takeLeast 124 = .ok (.istore 6, 2) := by decide +kernel
theorem dX2_takeLeast_126 : decode cX2_takeLeast 126 = .ok (.goto (-84), 3) := by decide +kernel
theorem dX2_takeLeast_129 : decode cX2_takeLeast 129 = .ok (.aload_n 0, 1) := by decide +kernel
theorem dX2_takeLeast_130 : decode cX2_takeLeast 130 = .ok (.getfield 9, 3) := by decide +kernel
theorem dX2_takeLeast_133 : decode cX2_takeLeast 133 = .ok (.iload 5, 2) := by decide +kernel
theorem dX2_takeLeast_135 : decode cX2_takeLeast 135 = .ok (.lload_n 3, 1) := by decide +kernel
theorem dX2_takeLeast_136 : decode cX2_takeLeast 136 = .ok (.lastore, 1) := by decide +kernel
theorem dX2_takeLeast_137 : decode cX2_takeLeast 137 = .ok (.lload_n 1, 1) := by decide +kernel
theorem dX2_takeLeast_138 : decode cX2_takeLeast 138 = .ok (.lreturn, 1) := by decide +kernel
theorem dX3_init_0 : decode cX3_init 0 = .ok (.aload_n 0, 1) := by decide +kernel
theorem dX3_init_1 : decode cX3_init 1 = .ok (.invokespecial 5, 3) := by decide +kernel
theorem dX3_init_4 : decode cX3_init 4 = .ok (.aload_n 0, 1) := by decide +kernel
theorem dX3_init_5 : decode cX3_init 5 = .ok (.sipush 188, 3) := by decide +kernel
theorem dX3_init_8 : decode cX3_init 8 = .ok (.anewarray 11, 3) := by decide +kernel
theorem dX3_init_11 : decode cX3_init 11 = .ok (.putfield 13, 3) := by decide +kernel
theorem dX3_init_14 : decode cX3_init 14 = .ok (.aload_n 0, 1) := by decide +kernel
theorem dX3_init_15 : decode cX3_init 15 = .ok (.sipush 188, 3) := by decide +kernel
theorem dX3_init_18 : decode cX3_init 18 = .ok (.anewarray 11, 3) := by decide +kernel
theorem dX3_init_21 : decode cX3_init 21 = .ok (.putfield 17, 3) := by decide +kernel
theorem dX3_init_24 : decode cX3_init 24 = .ok (.return_, 1) := by decide +kernel
theorem dX3_add_0 : decode cX3_add 0 = .ok (.aload_n 0, 1) := by decide +kernel
theorem dX3_add_1 : decode cX3_add 1 = .ok (.getfield 20, 3) := by decide +kernel
theorem dX3_add_4 : decode cX3_add 4 = .ok (.bipush 10, 2) := by decide +kernel
theorem dX3_add_6 : decode cX3_add 6 = .ok (.ishr, 1) := by decide +kernel
theorem dX3_add_7 : decode cX3_add 7 = .ok (.istore 5, 2) := by decide +kernel
theorem dX3_add_9 : decode cX3_add 9 = .ok (.iload 5, 2) := by decide +kernel
theorem dX3_add_11 : decode cX3_add 11 = .ok (.sipush 188, 3) := by decide +kernel
theorem dX3_add_14 : decode cX3_add 14 = .ok (.if_icmp .lt 5, 3) := by decide +kernel
theorem dX3_add_17 : decode cX3_add 17 = .ok (.iconst (-1), 1) := by decide +kernel
theorem dX3_add_18 : decode cX3_add 18 = .ok (.ireturn, 1) := by decide +kernel
theorem dX3_add_19 : decode cX3_add 19 = .ok (.aload_n 0, 1) := by decide +kernel
theorem dX3_add_20 : decode cX3_add 20 = .ok (.getfield 13, 3) := by decide +kernel
theorem dX3_add_23 : decode cX3_add 23 = .ok (.iload 5, 2) := by decide +kernel
theorem dX3_add_25 : decode cX3_add 25 = .ok (.aaload, 1) := by decide +kernel
theorem dX3_add_26 : decode cX3_add 26 = .ok (.ifnull 13, 3) := by decide +kernel
theorem dX3_add_29 : decode cX3_add 29 = .ok (.aload_n 0, 1) := by decide +kernel
theorem dX3_add_30 : decode cX3_add 30 = .ok (.getfield 17, 3) := by decide +kernel
theorem dX3_add_33 : decode cX3_add 33 = .ok (.iload 5, 2) := by decide +kernel
theorem dX3_add_35 : decode cX3_add 35 = .ok (.aaload, 1) := by decide +kernel
theorem dX3_add_36 : decode cX3_add 36 = .ok (.ifnonnull 27, 3) := by decide +kernel
theorem dX3_add_39 : decode cX3_add 39 = .ok (.aload_n 0, 1) := by decide +kernel
theorem dX3_add_40 : decode cX3_add 40 = .ok (.getfield 13, 3) := by decide +kernel
theorem dX3_add_43 : decode cX3_add 43 = .ok (.iload 5, 2) := by decide +kernel
theorem dX3_add_45 : decode cX3_add 45 = .ok (.sipush 1024, 3) := by decide +kernel
theorem dX3_add_48 : decode cX3_add 48 = .ok (.newarray .long, 2) := by decide +kernel
theorem dX3_add_50 : decode cX3_add 50 = .ok (.aastore, 1) := by decide +kernel
theorem dX3_add_51 : decode cX3_add 51 = .ok (.aload_n 0, 1) := by decide +kernel
theorem dX3_add_52 : decode cX3_add 52 = .ok (.getfield 17, 3) := by decide +kernel
theorem dX3_add_55 : decode cX3_add 55 = .ok (.iload 5, 2) := by decide +kernel
theorem dX3_add_57 : decode cX3_add 57 = .ok (.sipush 1024, 3) := by decide +kernel
theorem dX3_add_60 : decode cX3_add 60 = .ok (.newarray .long, 2) := by decide +kernel
theorem dX3_add_62 : decode cX3_add 62 = .ok (.aastore, 1) := by decide +kernel
theorem dX3_add_63 : decode cX3_add 63 = .ok (.aload_n 0, 1) := by decide +kernel
theorem dX3_add_64 : decode cX3_add 64 = .ok (.getfield 13, 3) := by decide +kernel
theorem dX3_add_67 : decode cX3_add 67 = .ok (.iload 5, 2) := by decide +kernel
theorem dX3_add_69 : decode cX3_add 69 = .ok (.aaload, 1) := by decide +kernel
theorem dX3_add_70 : decode cX3_add 70 = .ok (.aload_n 0, 1) := by decide +kernel
theorem dX3_add_71 : decode cX3_add 71 = .ok (.getfield 20, 3) := by decide +kernel
theorem dX3_add_74 : decode cX3_add 74 = .ok (.sipush 1024, 3) := by decide +kernel
theorem dX3_add_77 : decode cX3_add 77 = .ok (.irem, 1) := by decide +kernel
theorem dX3_add_78 : decode cX3_add 78 = .ok (.lload_n 1, 1) := by decide +kernel
theorem dX3_add_79 : decode cX3_add 79 = .ok (.lastore, 1) := by decide +kernel
theorem dX3_add_80 : decode cX3_add 80 = .ok (.aload_n 0, 1) := by decide +kernel
theorem dX3_add_81 : decode cX3_add 81 = .ok (.getfield 17, 3) := by decide +kernel
theorem dX3_add_84 : decode cX3_add 84 = .ok (.iload 5, 2) := by decide +kernel
theorem dX3_add_86 : decode cX3_add 86 = .ok (.aaload, 1) := by decide +kernel
theorem dX3_add_87 : decode cX3_add 87 = .ok (.aload_n 0, 1) := by decide +kernel
theorem dX3_add_88 : decode cX3_add 88 = .ok (.getfield 20, 3) := by decide +kernel
theorem dX3_add_91 : decode cX3_add 91 = .ok (.sipush 1024, 3) := by decide +kernel
theorem dX3_add_94 : decode cX3_add 94 = .ok (.irem, 1) := by decide +kernel
theorem dX3_add_95 : decode cX3_add 95 = .ok (.lload_n 3, 1) := by decide +kernel
theorem dX3_add_96 : decode cX3_add 96 = .ok (.lastore, 1) := by decide +kernel
theorem dX3_add_97 : decode cX3_add 97 = .ok (.aload_n 0, 1) := by decide +kernel
theorem dX3_add_98 : decode cX3_add 98 = .ok (.dup, 1) := by decide +kernel
theorem dX3_add_99 : decode cX3_add 99 = .ok (.getfield 20, 3) := by decide +kernel
theorem dX3_add_102 : decode cX3_add 102 = .ok (.dup_x1, 1) := by decide +kernel
theorem dX3_add_103 : decode cX3_add 103 = .ok (.iconst 1, 1) := by decide +kernel
theorem dX3_add_104 : decode cX3_add 104 = .ok (.iadd, 1) := by decide +kernel
theorem dX3_add_105 : decode cX3_add 105 = .ok (.putfield 20, 3) := by decide +kernel
theorem dX3_add_108 : decode cX3_add 108 = .ok (.ireturn, 1) := by decide +kernel
theorem dX3_holds_0 : decode cX3_holds 0 = .ok (.iload_n 1, 1) := by decide +kernel
theorem dX3_holds_1 : decode cX3_holds 1 = .ok (.ifCond .lt 15, 3) := by decide +kernel
theorem dX3_holds_4 : decode cX3_holds 4 = .ok (.iload_n 1, 1) := by decide +kernel
theorem dX3_holds_5 : decode cX3_holds 5 = .ok (.aload_n 0, 1) := by decide +kernel
theorem dX3_holds_6 : decode cX3_holds 6 = .ok (.getfield 20, 3) := by decide +kernel
theorem dX3_holds_9 : decode cX3_holds 9 = .ok (.if_icmp .ge 7, 3) := by decide +kernel
theorem dX3_holds_12 : decode cX3_holds 12 = .ok (.iconst 1, 1) := by decide +kernel
theorem dX3_holds_13 : decode cX3_holds 13 = .ok (.goto 4, 3) := by decide +kernel
theorem dX3_holds_16 : decode cX3_holds 16 = .ok (.iconst 0, 1) := by decide +kernel
theorem dX3_holds_17 : decode cX3_holds 17 = .ok (.ireturn, 1) := by decide +kernel
theorem dX3_codeAt_0 : decode cX3_codeAt 0 = .ok (.aload_n 0, 1) := by decide +kernel
theorem dX3_codeAt_1 : decode cX3_codeAt 1 = .ok (.iload_n 1, 1) := by decide +kernel
theorem dX3_codeAt_2 : decode cX3_codeAt 2 = .ok (.invokevirtual 24, 3) := by decide +kernel
theorem dX3_codeAt_5 : decode cX3_codeAt 5 = .ok (.ifCond .eq 21, 3) := by decide +kernel
theorem dX3_codeAt_8 : decode cX3_codeAt 8 = .ok (.aload_n 0, 1) := by decide +kernel
theorem dX3_codeAt_9 : decode cX3_codeAt 9 = .ok (.getfield 13, 3) := by decide +kernel
theorem dX3_codeAt_12 : decode cX3_codeAt 12 = .ok (.iload_n 1, 1) := by decide +kernel
theorem dX3_codeAt_13 : decode cX3_codeAt 13 = .ok (.bipush 10, 2) := by decide +kernel
theorem dX3_codeAt_15 : decode cX3_codeAt 15 = .ok (.ishr, 1) := by decide +kernel
theorem dX3_codeAt_16 : decode cX3_codeAt 16 = .ok (.aaload, 1) := by decide +kernel
theorem dX3_codeAt_17 : decode cX3_codeAt 17 = .ok (.iload_n 1, 1) := by decide +kernel
theorem dX3_codeAt_18 : decode cX3_codeAt 18 = .ok (.sipush 1024, 3) := by decide +kernel
theorem dX3_codeAt_21 : decode cX3_codeAt 21 = .ok (.irem, 1) := by decide +kernel
theorem dX3_codeAt_22 : decode cX3_codeAt 22 = .ok (.laload, 1) := by decide +kernel
theorem dX3_codeAt_23 : decode cX3_codeAt 23 = .ok (.goto 4, 3) := by decide +kernel
theorem dX3_codeAt_26 : decode cX3_codeAt 26 = .ok (.lconst 0, 1) := by decide +kernel
theorem dX3_codeAt_27 : decode cX3_codeAt 27 = .ok (.lreturn, 1) := by decide +kernel
theorem dX3_sumAt_0 : decode cX3_sumAt 0 = .ok (.aload_n 0, 1) := by decide +kernel
theorem dX3_sumAt_1 : decode cX3_sumAt 1 = .ok (.iload_n 1, 1) := by decide +kernel
theorem dX3_sumAt_2 : decode cX3_sumAt 2 = .ok (.invokevirtual 24, 3) := by decide +kernel
theorem dX3_sumAt_5 : decode cX3_sumAt 5 = .ok (.ifCond .eq 21, 3) := by decide +kernel
theorem dX3_sumAt_8 : decode cX3_sumAt 8 = .ok (.aload_n 0, 1) := by decide +kernel
theorem dX3_sumAt_9 : decode cX3_sumAt 9 = .ok (.getfield 17, 3) := by decide +kernel
theorem dX3_sumAt_12 : decode cX3_sumAt 12 = .ok (.iload_n 1, 1) := by decide +kernel
theorem dX3_sumAt_13 : decode cX3_sumAt 13 = .ok (.bipush 10, 2) := by decide +kernel
theorem dX3_sumAt_15 : decode cX3_sumAt 15 = .ok (.ishr, 1) := by decide +kernel
theorem dX3_sumAt_16 : decode cX3_sumAt 16 = .ok (.aaload, 1) := by decide +kernel
theorem dX3_sumAt_17 : decode cX3_sumAt 17 = .ok (.iload_n 1, 1) := by decide +kernel
theorem dX3_sumAt_18 : decode cX3_sumAt 18 = .ok (.sipush 1024, 3) := by decide +kernel
theorem dX3_sumAt_21 : decode cX3_sumAt 21 = .ok (.irem, 1) := by decide +kernel
theorem dX3_sumAt_22 : decode cX3_sumAt 22 = .ok (.laload, 1) := by decide +kernel
theorem dX3_sumAt_23 : decode cX3_sumAt 23 = .ok (.goto 4, 3) := by decide +kernel
theorem dX3_sumAt_26 : decode cX3_sumAt 26 = .ok (.lconst 0, 1) := by decide +kernel
theorem dX3_sumAt_27 : decode cX3_sumAt 27 = .ok (.lreturn, 1) := by decide +kernel
theorem dX4_init_0 : decode cX4_init 0 = .ok (.aload_n 0, 1) := by decide +kernel
theorem dX4_init_1 : decode cX4_init 1 = .ok (.iload_n 1, 1) := by decide +kernel
theorem dX4_init_2 : decode cX4_init 2 = .ok (.invokespecial 3, 3) := by decide +kernel
theorem dX4_init_5 : decode cX4_init 5 = .ok (.aload_n 0, 1) := by decide +kernel
theorem dX4_init_6 : decode cX4_init 6 = .ok (.iload_n 2, 1) := by decide +kernel
theorem dX4_init_7 : decode cX4_init 7 = .ok (.putfield 9, 3) := by decide +kernel
theorem dX4_init_10 : decode cX4_init 10 = .ok (.aload_n 0, 1) := by decide +kernel
theorem dX4_init_11 : decode cX4_init 11 = .ok (.iload_n 3, 1) := by decide +kernel
theorem dX4_init_12 : decode cX4_init 12 = .ok (.putfield 15, 3) := by decide +kernel
theorem dX4_init_15 : decode cX4_init 15 = .ok (.return_, 1) := by decide +kernel
theorem dX4_rise_0 : decode cX4_rise 0 = .ok (.aload_n 0, 1) := by decide +kernel
theorem dX4_rise_1 : decode cX4_rise 1 = .ok (.iload_n 1, 1) := by decide +kernel
theorem dX4_rise_2 : decode cX4_rise 2 = .ok (.putfield 18, 3) := by decide +kernel
theorem dX4_rise_5 : decode cX4_rise 5 = .ok (.return_, 1) := by decide +kernel
theorem dX4_gives_0 : decode cX4_gives 0 = .ok (.aload_n 0, 1) := by decide +kernel
theorem dX4_gives_1 : decode cX4_gives 1 = .ok (.dup, 1) := by decide +kernel
theorem dX4_gives_2 : decode cX4_gives 2 = .ok (.getfield 21, 3) := by decide +kernel
theorem dX4_gives_5 : decode cX4_gives 5 = .ok (.iconst 1, 1) := by decide +kernel
theorem dX4_gives_6 : decode cX4_gives 6 = .ok (.iadd, 1) := by decide +kernel
theorem dX4_gives_7 : decode cX4_gives 7 = .ok (.putfield 21, 3) := by decide +kernel
theorem dX4_gives_10 : decode cX4_gives 10 = .ok (.aload_n 0, 1) := by decide +kernel
theorem dX4_gives_11 : decode cX4_gives 11 = .ok (.getfield 24, 3) := by decide +kernel
theorem dX4_gives_14 : decode cX4_gives 14 = .ok (.ifCond .ne 13, 3) := by decide +kernel
theorem dX4_gives_17 : decode cX4_gives 17 = .ok (.aload_n 0, 1) := by decide +kernel
theorem dX4_gives_18 : decode cX4_gives 18 = .ok (.lload_n 3, 1) := by decide +kernel
theorem dX4_gives_19 : decode cX4_gives 19 = .ok (.invokevirtual 27, 3) := by decide +kernel
theorem dX4_gives_22 : decode cX4_gives 22 = .ok (.ifCond .ne 5, 3) := by decide +kernel
theorem dX4_gives_25 : decode cX4_gives 25 = .ok (.iconst 0, 1) := by decide +kernel
theorem dX4_gives_26 : decode cX4_gives 26 = .ok (.ireturn, 1) := by decide +kernel
theorem dX4_gives_27 : decode cX4_gives 27 = .ok (.aload_n 0, 1) := by decide +kernel
theorem dX4_gives_28 : decode cX4_gives 28 = .ok (.iconst 1, 1) := by decide +kernel
theorem dX4_gives_29 : decode cX4_gives 29 = .ok (.putfield 31, 3) := by decide +kernel
theorem dX4_gives_32 : decode cX4_gives 32 = .ok (.aload_n 0, 1) := by decide +kernel
theorem dX4_gives_33 : decode cX4_gives 33 = .ok (.aload_n 0, 1) := by decide +kernel
theorem dX4_gives_34 : decode cX4_gives 34 = .ok (.getfield 24, 3) := by decide +kernel
theorem dX4_gives_37 : decode cX4_gives 37 = .ok (.iconst 3, 1) := by decide +kernel
theorem dX4_gives_38 : decode cX4_gives 38 = .ok (.if_icmp .ne 23, 3) := by decide +kernel
theorem dX4_gives_41 : decode cX4_gives 41 = .ok (.aload_n 0, 1) := by decide +kernel
theorem dX4_gives_42 : decode cX4_gives 42 = .ok (.getfield 9, 3) := by decide +kernel
theorem dX4_gives_45 : decode cX4_gives 45 = .ok (.ifCond .le 16, 3) := by decide +kernel
theorem dX4_gives_48 : decode cX4_gives 48 = .ok (.lload_n 3, 1) := by decide +kernel
theorem dX4_gives_49 : decode cX4_gives 49 = .ok (.aload_n 0, 1) := by decide +kernel
theorem dX4_gives_50 : decode cX4_gives 50 = .ok (.getfield 9, 3) := by decide +kernel
theorem dX4_gives_53 : decode cX4_gives 53 = .ok (.i2l, 1) := by decide +kernel
theorem dX4_gives_54 : decode cX4_gives 54 = .ok (.invokestatic 35, 3) := by decide +kernel
theorem dX4_gives_57 : decode cX4_gives 57 = .ok (.l2i, 1) := by decide +kernel
theorem dX4_gives_58 : decode cX4_gives 58 = .ok (.goto 4, 3) := by decide +kernel
theorem dX4_gives_61 : decode cX4_gives 61 = .ok (.iload_n 1, 1) := by decide +kernel
theorem dX4_gives_62 : decode cX4_gives 62 = .ok (.putfield 41, 3) := by decide +kernel
theorem dX4_gives_65 : decode cX4_gives 65 = .ok (.aload_n 0, 1) := by decide +kernel
theorem dX4_gives_66 : decode cX4_gives 66 = .ok (.iload_n 2, 1) := by decide +kernel
theorem dX4_gives_67 : decode cX4_gives 67 = .ok (.putfield 44, 3) := by decide +kernel
theorem dX4_gives_70 : decode cX4_gives 70 = .ok (.aload_n 0, 1) := by decide +kernel
theorem dX4_gives_71 : decode cX4_gives 71 = .ok (.aload_n 0, 1) := by decide +kernel
theorem dX4_gives_72 : decode cX4_gives 72 = .ok (.getfield 24, 3) := by decide +kernel
theorem dX4_gives_75 : decode cX4_gives 75 = .ok (.iconst 1, 1) := by decide +kernel
theorem dX4_gives_76 : decode cX4_gives 76 = .ok (.if_icmp .ne 19, 3) := by decide +kernel
theorem dX4_gives_79 : decode cX4_gives 79 = .ok (.lload_n 3, 1) := by decide +kernel
theorem dX4_gives_80 : decode cX4_gives 80 = .ok (.aload_n 0, 1) := by decide +kernel
theorem dX4_gives_81 : decode cX4_gives 81 = .ok (.getfield 9, 3) := by decide +kernel
theorem dX4_gives_84 : decode cX4_gives 84 = .ok (.i2l, 1) := by decide +kernel
theorem dX4_gives_85 : decode cX4_gives 85 = .ok (.lmul, 1) := by decide +kernel
theorem dX4_gives_86 : decode cX4_gives 86 = .ok (.aload_n 0, 1) := by decide +kernel
theorem dX4_gives_87 : decode cX4_gives 87 = .ok (.getfield 15, 3) := by decide +kernel
theorem dX4_gives_90 : decode cX4_gives 90 = .ok (.i2l, 1) := by decide +kernel
theorem dX4_gives_91 : decode cX4_gives 91 = .ok (.ladd, 1) := by decide +kernel
theorem dX4_gives_92 : decode cX4_gives 92 = .ok (.goto 4, 3) := by decide +kernel
theorem dX4_gives_95 : decode cX4_gives 95 = .ok (.lload_n 3, 1) := by decide +kernel
theorem dX4_gives_96 : decode cX4_gives 96 = .ok (.putfield 47, 3) := by decide +kernel
theorem dX4_gives_99 : decode cX4_gives 99 = .ok (.iconst 1, 1) := by decide +kernel
theorem dX4_gives_100 : decode cX4_gives 100 = .ok (.ireturn, 1) := by decide +kernel
theorem dX4_keeps_0 : decode cX4_keeps 0 = .ok (.aload_n 0, 1) := by decide +kernel
theorem dX4_keeps_1 : decode cX4_keeps 1 = .ok (.getfield 15, 3) := by decide +kernel
theorem dX4_keeps_4 : decode cX4_keeps 4 = .ok (.ifCond .le 29, 3) := by decide +kernel
theorem dX4_keeps_7 : decode cX4_keeps 7 = .ok (.lload_n 1, 1) := by decide +kernel
theorem dX4_keeps_8 : decode cX4_keeps 8 = .ok (.aload_n 0, 1) := by decide +kernel
theorem dX4_keeps_9 : decode cX4_keeps 9 = .ok (.getfield 15, 3) := by decide +kernel
theorem dX4_keeps_12 : decode cX4_keeps 12 = .ok (.i2l, 1) := by decide +kernel
theorem dX4_keeps_13 : decode cX4_keeps 13 = .ok (.invokestatic 35, 3) := by decide +kernel
theorem dX4_keeps_16 : decode cX4_keeps 16 = .ok (.aload_n 0, 1) := by decide +kernel
theorem dX4_keeps_17 : decode cX4_keeps 17 = .ok (.getfield 9, 3) := by decide +kernel
theorem dX4_keeps_20 : decode cX4_keeps 20 = .ok (.i2l, 1) := by decide +kernel
theorem dX4_keeps_21 : decode cX4_keeps 21 = .ok (.lcmp, 1) := by decide +kernel
theorem dX4_keeps_22 : decode cX4_keeps 22 = .ok (.ifCond .ne 7, 3) := by decide +kernel
theorem dX4_keeps_25 : decode cX4_keeps 25 = .ok (.iconst 1, 1) := by decide +kernel
theorem dX4_keeps_26 : decode cX4_keeps 26 = .ok (.goto 22, 3) := by decide +kernel
theorem dX4_keeps_29 : decode cX4_keeps 29 = .ok (.iconst 0, 1) := by decide +kernel
theorem dX4_keeps_30 : decode cX4_keeps 30 = .ok (.goto 18, 3) := by decide +kernel
theorem dX4_keeps_33 : decode cX4_keeps 33 = .ok (.lload_n 1, 1) := by decide +kernel
theorem dX4_keeps_34 : decode cX4_keeps 34 = .ok (.aload_n 0, 1) := by decide +kernel
theorem dX4_keeps_35 : decode cX4_keeps 35 = .ok (.getfield 9, 3) := by decide +kernel
theorem dX4_keeps_38 : decode cX4_keeps 38 = .ok (.i2l, 1) := by decide +kernel
theorem dX4_keeps_39 : decode cX4_keeps 39 = .ok (.lcmp, 1) := by decide +kernel
theorem dX4_keeps_40 : decode cX4_keeps 40 = .ok (.ifCond .lt 7, 3) := by decide +kernel
theorem dX4_keeps_43 : decode cX4_keeps 43 = .ok (.iconst 1, 1) := by decide +kernel
theorem dX4_keeps_44 : decode cX4_keeps 44 = .ok (.goto 4, 3) := by decide +kernel
theorem dX4_keeps_47 : decode cX4_keeps 47 = .ok (.iconst 0, 1) := by decide +kernel
theorem dX4_keeps_48 : decode cX4_keeps 48 = .ok (.ireturn, 1) := by decide +kernel
theorem dX5_init_0 : decode cX5_init 0 = .ok (.aload_n 0, 1) := by decide +kernel
theorem dX5_init_1 : decode cX5_init 1 = .ok (.invokespecial 1, 3) := by decide +kernel
theorem dX5_init_4 : decode cX5_init 4 = .ok (.return_, 1) := by decide +kernel
theorem dX6_init_0 : decode cX6_init 0 = .ok (.aload_n 0, 1) := by decide +kernel
theorem dX6_init_1 : decode cX6_init 1 = .ok (.invokespecial 1, 3) := by decide +kernel
theorem dX6_init_4 : decode cX6_init 4 = .ok (.aload_n 0, 1) := by decide +kernel
theorem dX6_init_5 : decode cX6_init 5 = .ok (.iload_n 1, 1) := by decide +kernel
theorem dX6_init_6 : decode cX6_init 6 = .ok (.putfield 7, 3) := by decide +kernel
theorem dX6_init_9 : decode cX6_init 9 = .ok (.aload_n 0, 1) := by decide +kernel
theorem dX6_init_10 : decode cX6_init 10 = .ok (.iconst 1, 1) := by decide +kernel
theorem dX6_init_11 : decode cX6_init 11 = .ok (.putfield 13, 3) := by decide +kernel
theorem dX6_init_14 : decode cX6_init 14 = .ok (.return_, 1) := by decide +kernel
theorem dX6_isFedBy_0 : decode cX6_isFedBy 0 = .ok (.aload_n 0, 1) := by decide +kernel
theorem dX6_isFedBy_1 : decode cX6_isFedBy 1 = .ok (.getfield 17, 3) := by decide +kernel
theorem dX6_isFedBy_4 : decode cX6_isFedBy 4 = .ok (.iload_n 1, 1) := by decide +kernel
theorem dX6_isFedBy_5 : decode cX6_isFedBy 5 = .ok (.ishr, 1) := by decide +kernel
theorem dX6_isFedBy_6 : decode cX6_isFedBy 6 = .ok (.iconst 1, 1) := by decide +kernel
theorem dX6_isFedBy_7 : decode cX6_isFedBy 7 = .ok (.iand, 1) := by decide +kernel
theorem dX6_isFedBy_8 : decode cX6_isFedBy 8 = .ok (.ifCond .eq 7, 3) := by decide +kernel
theorem dX6_isFedBy_11 : decode cX6_isFedBy 11 = .ok (.iconst 1, 1) := by decide +kernel
theorem dX6_isFedBy_12 : decode cX6_isFedBy 12 = .ok (.goto 4, 3) := by decide +kernel
theorem dX6_isFedBy_15 : decode cX6_isFedBy 15 = .ok (.iconst 0, 1) := by decide +kernel
theorem dX6_isFedBy_16 : decode cX6_isFedBy 16 = .ok (.ireturn, 1) := by decide +kernel
theorem dX7_init_0 : decode cX7_init 0 = .ok (.aload_n 0, 1) := by decide +kernel
theorem dX7_init_1 : decode cX7_init 1 = .ok (.invokespecial 3, 3) := by decide +kernel
theorem dX7_init_4 : decode cX7_init 4 = .ok (.aload_n 0, 1) := by decide +kernel
theorem dX7_init_5 : decode cX7_init 5 = .ok (.iconst (-1), 1) := by decide +kernel
theorem dX7_init_6 : decode cX7_init 6 = .ok (.putfield 9, 3) := by decide +kernel
theorem dX7_init_9 : decode cX7_init 9 = .ok (.aload_n 0, 1) := by decide +kernel
theorem dX7_init_10 : decode cX7_init 10 = .ok (.iload_n 1, 1) := by decide +kernel
theorem dX7_init_11 : decode cX7_init 11 = .ok (.putfield 15, 3) := by decide +kernel
theorem dX7_init_14 : decode cX7_init 14 = .ok (.aload_n 0, 1) := by decide +kernel
theorem dX7_init_15 : decode cX7_init 15 = .ok (.iload_n 2, 1) := by decide +kernel
theorem dX7_init_16 : decode cX7_init 16 = .ok (.putfield 18, 3) := by decide +kernel
theorem dX7_init_19 : decode cX7_init 19 = .ok (.aload_n 0, 1) := by decide +kernel
theorem dX7_init_20 : decode cX7_init 20 = .ok (.iload_n 3, 1) := by decide +kernel
theorem dX7_init_21 : decode cX7_init 21 = .ok (.putfield 21, 3) := by decide +kernel
theorem dX7_init_24 : decode cX7_init 24 = .ok (.return_, 1) := by decide +kernel
theorem dX7_widen_0 : decode cX7_widen 0 = .ok (.aload_n 0, 1) := by decide +kernel
theorem dX7_widen_1 : decode cX7_widen 1 = .ok (.aload_n 0, 1) := by decide +kernel
theorem dX7_widen_2 : decode cX7_widen 2 = .ok (.getfield 18, 3) := by decide +kernel
theorem dX7_widen_5 : decode cX7_widen 5 = .ok (.iload_n 1, 1) := by decide +kernel
theorem dX7_widen_6 : decode cX7_widen 6 = .ok (.invokestatic 24, 3) := by decide +kernel
theorem dX7_widen_9 : decode cX7_widen 9 = .ok (.putfield 18, 3) := by decide +kernel
theorem dX7_widen_12 : decode cX7_widen 12 = .ok (.aload_n 0, 1) := by decide +kernel
theorem dX7_widen_13 : decode cX7_widen 13 = .ok (.aload_n 0, 1) := by decide +kernel
theorem dX7_widen_14 : decode cX7_widen 14 = .ok (.getfield 21, 3) := by decide +kernel
theorem dX7_widen_17 : decode cX7_widen 17 = .ok (.iload_n 2, 1) := by decide +kernel
theorem dX7_widen_18 : decode cX7_widen 18 = .ok (.invokestatic 30, 3) := by decide +kernel
theorem dX7_widen_21 : decode cX7_widen 21 = .ok (.putfield 21, 3) := by decide +kernel
theorem dX7_widen_24 : decode cX7_widen 24 = .ok (.return_, 1) := by decide +kernel
theorem dX7_add_0 : decode cX7_add 0 = .ok (.iload_n 3, 1) := by decide +kernel
theorem dX7_add_1 : decode cX7_add 1 = .ok (.iconst 4, 1) := by decide +kernel
theorem dX7_add_2 : decode cX7_add 2 = .ok (.if_icmp .eq 8, 3) := by decide +kernel
theorem dX7_add_5 : decode cX7_add 5 = .ok (.iload_n 3, 1) := by decide +kernel
theorem dX7_add_6 : decode cX7_add 6 = .ok (.iconst 5, 1) := by decide +kernel
theorem dX7_add_7 : decode cX7_add 7 = .ok (.if_icmp .ne 21, 3) := by decide +kernel
theorem dX7_add_10 : decode cX7_add 10 = .ok (.aload_n 0, 1) := by decide +kernel
theorem dX7_add_11 : decode cX7_add 11 = .ok (.lload_n 1, 1) := by decide +kernel
theorem dX7_add_12 : decode cX7_add 12 = .ok (.iload_n 3, 1) := by decide +kernel
theorem dX7_add_13 : decode cX7_add 13 = .ok (.iconst 5, 1) := by decide +kernel
theorem dX7_add_14 : decode cX7_add 14 = .ok (.if_icmp .ne 7, 3) := by decide +kernel
theorem dX7_add_17 : decode cX7_add 17 = .ok (.iconst 1, 1) := by decide +kernel
theorem dX7_add_18 : decode cX7_add 18 = .ok (.goto 4, 3) := by decide +kernel
theorem dX7_add_21 : decode cX7_add 21 = .ok (.iconst 0, 1) := by decide +kernel
theorem dX7_add_22 : decode cX7_add 22 = .ok (.invokevirtual 33, 3) := by decide +kernel
theorem dX7_add_25 : decode cX7_add 25 = .ok (.goto 24, 3) := by decide +kernel
theorem dX7_add_28 : decode cX7_add 28 = .ok (.aload_n 0, 1) := by decide +kernel
theorem dX7_add_29 : decode cX7_add 29 = .ok (.aload_n 0, 1) := by decide +kernel
theorem dX7_add_30 : decode cX7_add 30 = .ok (.getfield 37, 3) := by decide +kernel
theorem dX7_add_33 : decode cX7_add 33 = .ok (.ifCond .ne 7, 3) := by decide +kernel
theorem dX7_add_36 : decode cX7_add 36 = .ok (.lload_n 1, 1) := by decide +kernel
theorem dX7_add_37 : decode cX7_add 37 = .ok (.goto 9, 3) := by decide +kernel
theorem dX7_add_40 : decode cX7_add 40 = .ok (.aload_n 0, 1) := by decide +kernel
theorem dX7_add_41 : decode cX7_add 41 = .ok (.lload_n 1, 1) := by decide +kernel
theorem dX7_add_42 : decode cX7_add 42 = .ok (.iload_n 3, 1) := by decide +kernel
theorem dX7_add_43 : decode cX7_add 43 = .ok (.invokevirtual 40, 3) := by decide +kernel
theorem dX7_add_46 : decode cX7_add 46 = .ok (.putfield 44, 3) := by decide +kernel
theorem dX7_add_49 : decode cX7_add 49 = .ok (.aload_n 0, 1) := by decide +kernel
theorem dX7_add_50 : decode cX7_add 50 = .ok (.dup, 1) := by decide +kernel
theorem dX7_add_51 : decode cX7_add 51 = .ok (.getfield 37, 3) := by decide +kernel
theorem dX7_add_54 : decode cX7_add 54 = .ok (.iconst 1, 1) := by decide +kernel
theorem dX7_add_55 : decode cX7_add 55 = .ok (.iadd, 1) := by decide +kernel
theorem dX7_add_56 : decode cX7_add 56 = .ok (.putfield 37, 3) := by decide +kernel
theorem dX7_add_59 : decode cX7_add 59 = .ok (.return_, 1) := by decide +kernel
theorem dX7_absorb_0 : decode cX7_absorb 0 = .ok (.aload_n 0, 1) := by decide +kernel
theorem dX7_absorb_1 : decode cX7_absorb 1 = .ok (.aload_n 1, 1) := by decide +kernel
theorem dX7_absorb_2 : decode cX7_absorb 2 = .ok (.getfield 18, 3) := by decide +kernel
theorem dX7_absorb_5 : decode cX7_absorb 5 = .ok (.aload_n 1, 1) := by decide +kernel
theorem dX7_absorb_6 : decode cX7_absorb 6 = .ok (.getfield 21, 3) := by decide +kernel
theorem dX7_absorb_9 : decode cX7_absorb 9 = .ok (.invokevirtual 48, 3) := by decide +kernel
theorem dX7_absorb_12 : decode cX7_absorb 12 = .ok (.aload_n 0, 1) := by decide +kernel
theorem dX7_absorb_13 : decode cX7_absorb 13 = .ok (.aload_n 0, 1) := by decide +kernel
theorem dX7_absorb_14 : decode cX7_absorb 14 = .ok (.aload_n 1, 1) := by decide +kernel
theorem dX7_absorb_15 : decode cX7_absorb 15 = .ok (.getfield 44, 3) := by decide +kernel
theorem dX7_absorb_18 : decode cX7_absorb 18 = .ok (.iload_n 2, 1) := by decide +kernel
theorem dX7_absorb_19 : decode cX7_absorb 19 = .ok (.invokevirtual 40, 3) := by decide +kernel
theorem dX7_absorb_22 : decode cX7_absorb 22 = .ok (.putfield 44, 3) := by decide +kernel
theorem dX7_absorb_25 : decode cX7_absorb 25 = .ok (.aload_n 0, 1) := by decide +kernel
theorem dX7_absorb_26 : decode cX7_absorb 26 = .ok (.dup, 1) := by decide +kernel
theorem dX7_absorb_27 : decode cX7_absorb 27 = .ok (.getfield 37, 3) := by decide +kernel
theorem dX7_absorb_30 : decode cX7_absorb 30 = .ok (.aload_n 1, 1) := by decide +kernel
theorem dX7_absorb_31 : decode cX7_absorb 31 = .ok (.getfield 37, 3) := by decide +kernel
theorem dX7_absorb_34 : decode cX7_absorb 34 = .ok (.iadd, 1) := by decide +kernel
theorem dX7_absorb_35 : decode cX7_absorb 35 = .ok (.putfield 37, 3) := by decide +kernel
theorem dX7_absorb_38 : decode cX7_absorb 38 = .ok (.aload_n 1, 1) := by decide +kernel
theorem dX7_absorb_39 : decode cX7_absorb 39 = .ok (.getfield 52, 3) := by decide +kernel
theorem dX7_absorb_42 : decode cX7_absorb 42 = .ok (.aload_n 0, 1) := by decide +kernel
theorem dX7_absorb_43 : decode cX7_absorb 43 = .ok (.getfield 52, 3) := by decide +kernel
theorem dX7_absorb_46 : decode cX7_absorb 46 = .ok (.if_icmp .le 7, 3) := by decide +kernel
theorem dX7_absorb_49 : decode cX7_absorb 49 = .ok (.iconst 1, 1) := by decide +kernel
theorem dX7_absorb_50 : decode cX7_absorb 50 = .ok (.goto 4, 3) := by decide +kernel
theorem dX7_absorb_53 : decode cX7_absorb 53 = .ok (.iconst 0, 1) := by decide +kernel
theorem dX7_absorb_54 : decode cX7_absorb 54 = .ok (.istore_n 3, 1) := by decide +kernel
theorem dX7_absorb_55 : decode cX7_absorb 55 = .ok (.iload_n 3, 1) := by decide +kernel
theorem dX7_absorb_56 : decode cX7_absorb 56 = .ok (.ifCond .eq 10, 3) := by decide +kernel
theorem dX7_absorb_59 : decode cX7_absorb 59 = .ok (.aload_n 0, 1) := by decide +kernel
theorem dX7_absorb_60 : decode cX7_absorb 60 = .ok (.getfield 55, 3) := by decide +kernel
theorem dX7_absorb_63 : decode cX7_absorb 63 = .ok (.goto 7, 3) := by decide +kernel
theorem dX7_absorb_66 : decode cX7_absorb 66 = .ok (.aload_n 1, 1) := by decide +kernel
theorem dX7_absorb_67 : decode cX7_absorb 67 = .ok (.getfield 55, 3) := by decide +kernel
theorem dX7_absorb_70 : decode cX7_absorb 70 = .ok (.astore 4, 2) := by decide +kernel
theorem dX7_absorb_72 : decode cX7_absorb 72 = .ok (.aload_n 0, 1) := by decide +kernel
theorem dX7_absorb_73 : decode cX7_absorb 73 = .ok (.getfield 52, 3) := by decide +kernel
theorem dX7_absorb_76 : decode cX7_absorb 76 = .ok (.aload_n 1, 1) := by decide +kernel
theorem dX7_absorb_77 : decode cX7_absorb 77 = .ok (.getfield 52, 3) := by decide +kernel
theorem dX7_absorb_80 : decode cX7_absorb 80 = .ok (.invokestatic 24, 3) := by decide +kernel
theorem dX7_absorb_83 : decode cX7_absorb 83 = .ok (.istore 5, 2) := by decide +kernel
theorem dX7_absorb_85 : decode cX7_absorb 85 = .ok (.iload_n 3, 1) := by decide +kernel
theorem dX7_absorb_86 : decode cX7_absorb 86 = .ok (.ifCond .eq 19, 3) := by decide +kernel
theorem dX7_absorb_89 : decode cX7_absorb 89 = .ok (.aload_n 0, 1) := by decide +kernel
theorem dX7_absorb_90 : decode cX7_absorb 90 = .ok (.aload_n 1, 1) := by decide +kernel
theorem dX7_absorb_91 : decode cX7_absorb 91 = .ok (.getfield 55, 3) := by decide +kernel
theorem dX7_absorb_94 : decode cX7_absorb 94 = .ok (.putfield 55, 3) := by decide +kernel
theorem dX7_absorb_97 : decode cX7_absorb 97 = .ok (.aload_n 0, 1) := by decide +kernel
theorem dX7_absorb_98 : decode cX7_absorb 98 = .ok (.aload_n 1, 1) := by decide +kernel
theorem dX7_absorb_99 : decode cX7_absorb 99 = .ok (.getfield 52, 3) := by decide +kernel
theorem dX7_absorb_102 : decode cX7_absorb 102 = .ok (.putfield 52, 3) := by decide +kernel
theorem dX7_absorb_105 : decode cX7_absorb 105 = .ok (.iconst 0, 1) := by decide +kernel
theorem dX7_absorb_106 : decode cX7_absorb 106 = .ok (.istore 6, 2) := by decide +kernel
theorem dX7_absorb_108 : decode cX7_absorb 108 = .ok (.aload 4, 2) := by decide +kernel
theorem dX7_absorb_110 : decode cX7_absorb 110 = .ok (.ifnull 35, 3) := by decide +kernel
theorem dX7_absorb_113 : decode cX7_absorb 113 = .ok (.iload 6, 2) := by decide +kernel
theorem dX7_absorb_115 : decode cX7_absorb 115 = .ok (.iload 5, 2) := by decide +kernel
theorem dX7_absorb_117 : decode cX7_absorb 117 = .ok (.if_icmp .ge 28, 3) := by decide +kernel
theorem dX7_absorb_120 : decode cX7_absorb 120 = .ok (.aload_n 0, 1) := by decide +kernel
theorem dX7_absorb_121 : decode cX7_absorb 121 = .ok (.aload 4, 2) := by decide +kernel
theorem dX7_absorb_123 : decode cX7_absorb 123 = .ok (.iload 6, 2) := by decide +kernel
theorem dX7_absorb_125 : decode cX7_absorb 125 = .ok (.laload, 1) := by decide +kernel
theorem dX7_absorb_126 : decode cX7_absorb 126 = .ok (.iload_n 2, 1) := by decide +kernel
theorem dX7_absorb_127 : decode cX7_absorb 127 = .ok (.iconst 5, 1) := by decide +kernel
theorem dX7_absorb_128 : decode cX7_absorb 128 = .ok (.if_icmp .ne 7, 3) := by decide +kernel
theorem dX7_absorb_131 : decode cX7_absorb 131 = .ok (.iconst 1, 1) := by decide +kernel
theorem dX7_absorb_132 : decode cX7_absorb 132 = .ok (.goto 4, 3) := by decide +kernel
theorem dX7_absorb_135 : decode cX7_absorb 135 = .ok (.iconst 0, 1) := by decide +kernel
theorem dX7_absorb_136 : decode cX7_absorb 136 = .ok (.invokevirtual 33, 3) := by decide +kernel
theorem dX7_absorb_139 : decode cX7_absorb 139 = .ok (.iinc 6 1, 3) := by decide +kernel
theorem dX7_absorb_142 : decode cX7_absorb 142 = .ok (.goto (-34), 3) := by decide +kernel
theorem dX7_absorb_145 : decode cX7_absorb 145 = .ok (.return_, 1) := by decide +kernel
theorem dX7_answer_0 : decode cX7_answer 0 = .ok (.iload_n 1, 1) := by decide +kernel
theorem dX7_answer_1 : decode cX7_answer 1 = .ok (.lookupswitch 79 #[(0, 35), (4, 41), (5, 47)], 35) := by decide +kernel
theorem dX7_answer_36 : decode cX7_answer 36 = .ok (.aload_n 0, 1) := by decide +kernel
theorem dX7_answer_37 : decode cX7_answer 37 = .ok (.getfield 37, 3) := by decide +kernel
theorem dX7_answer_40 : decode cX7_answer 40 = .ok (.i2l, 1) := by decide +kernel
theorem dX7_answer_41 : decode cX7_answer 41 = .ok (.lreturn, 1) := by decide +kernel
theorem dX7_answer_42 : decode cX7_answer 42 = .ok (.aload_n 0, 1) := by decide +kernel
theorem dX7_answer_43 : decode cX7_answer 43 = .ok (.getfield 52, 3) := by decide +kernel
theorem dX7_answer_46 : decode cX7_answer 46 = .ok (.i2l, 1) := by decide +kernel
theorem dX7_answer_47 : decode cX7_answer 47 = .ok (.lreturn, 1) := by decide +kernel
theorem dX7_answer_48 : decode cX7_answer 48 = .ok (.aload_n 0, 1) := by decide +kernel
theorem dX7_answer_49 : decode cX7_answer 49 = .ok (.getfield 52, 3) := by decide +kernel
theorem dX7_answer_52 : decode cX7_answer 52 = .ok (.ifCond .le 26, 3) := by decide +kernel
theorem dX7_answer_55 : decode cX7_answer 55 = .ok (.aload_n 0, 1) := by decide +kernel
theorem dX7_answer_56 : decode cX7_answer 56 = .ok (.getfield 55, 3) := by decide +kernel
theorem dX7_answer_59 : decode cX7_answer 59 = .ok (.ifnull 19, 3) := by decide +kernel
theorem dX7_answer_62 : decode cX7_answer 62 = .ok (.aload_n 0, 1) := by decide +kernel
theorem dX7_answer_63 : decode cX7_answer 63 = .ok (.getfield 55, 3) := by decide +kernel
theorem dX7_answer_66 : decode cX7_answer 66 = .ok (.aload_n 0, 1) := by decide +kernel
theorem dX7_answer_67 : decode cX7_answer 67 = .ok (.getfield 52, 3) := by decide +kernel
theorem dX7_answer_70 : decode cX7_answer 70 = .ok (.iconst 1, 1) := by decide +kernel
theorem dX7_answer_71 : decode cX7_answer 71 = .ok (.isub, 1) := by decide +kernel
theorem dX7_answer_72 : decode cX7_answer 72 = .ok (.iconst 2, 1) := by decide +kernel
theorem dX7_answer_73 : decode cX7_answer 73 = .ok (.idiv, 1) := by decide +kernel
theorem dX7_answer_74 : decode cX7_answer 74 = .ok (.laload, 1) := by decide +kernel
theorem dX7_answer_75 : decode cX7_answer 75 = .ok (.goto 4, 3) := by decide +kernel
theorem dX7_answer_78 : decode cX7_answer 78 = .ok (.lconst 0, 1) := by decide +kernel
theorem dX7_answer_79 : decode cX7_answer 79 = .ok (.lreturn, 1) := by decide +kernel
theorem dX7_answer_80 : decode cX7_answer 80 = .ok (.aload_n 0, 1) := by decide +kernel
theorem dX7_answer_81 : decode cX7_answer 81 = .ok (.getfield 44, 3) := by decide +kernel
theorem dX7_answer_84 : decode cX7_answer 84 = .ok (.lreturn, 1) := by decide +kernel
theorem dX7_combined_0 : decode cX7_combined 0 = .ok (.iload_n 3, 1) := by decide +kernel
theorem dX7_combined_1 : decode cX7_combined 1 = .ok (.tableswitch 52 1 3 #[45, 27, 36], 27) := by decide +kernel
theorem dX7_combined_28 : decode cX7_combined 28 = .ok (.aload_n 0, 1) := by decide +kernel
theorem dX7_combined_29 : decode cX7_combined 29 = .ok (.getfield 44, 3) := by decide +kernel
theorem dX7_combined_32 : decode cX7_combined 32 = .ok (.lload_n 1, 1) := by decide +kernel
theorem dX7_combined_33 : decode cX7_combined 33 = .ok (.invokestatic 59, 3) := by decide +kernel
theorem dX7_combined_36 : decode cX7_combined 36 = .ok (.lreturn, 1) := by decide +kernel
theorem dX7_combined_37 : decode cX7_combined 37 = .ok (.aload_n 0, 1) := by decide +kernel
theorem dX7_combined_38 : decode cX7_combined 38 = .ok (.getfield 44, 3) := by decide +kernel
theorem dX7_combined_41 : decode cX7_combined 41 = .ok (.lload_n 1, 1) := by decide +kernel
theorem dX7_combined_42 : decode cX7_combined 42 = .ok (.invokestatic 62, 3) := by decide +kernel
theorem dX7_combined_45 : decode cX7_combined 45 = .ok (.lreturn, 1) := by decide +kernel
theorem dX7_combined_46 : decode cX7_combined 46 = .ok (.aload_n 0, 1) := by decide +kernel
theorem dX7_combined_47 : decode cX7_combined 47 = .ok (.getfield 44, 3) := by decide +kernel
theorem dX7_combined_50 : decode cX7_combined 50 = .ok (.lload_n 1, 1) := by decide +kernel
theorem dX7_combined_51 : decode cX7_combined 51 = .ok (.ladd, 1) := by decide +kernel
theorem dX7_combined_52 : decode cX7_combined 52 = .ok (.lreturn, 1) := by decide +kernel
theorem dX7_combined_53 : decode cX7_combined 53 = .ok (.aload_n 0, 1) := by decide +kernel
theorem dX7_combined_54 : decode cX7_combined 54 = .ok (.getfield 44, 3) := by decide +kernel
theorem dX7_combined_57 : decode cX7_combined 57 = .ok (.lreturn, 1) := by decide +kernel
theorem dX7_insert_0 : decode cX7_insert 0 = .ok (.aload_n 0, 1) := by decide +kernel
theorem dX7_insert_1 : decode cX7_insert 1 = .ok (.getfield 55, 3) := by decide +kernel
theorem dX7_insert_4 : decode cX7_insert 4 = .ok (.ifnonnull 10, 3) := by decide +kernel
theorem dX7_insert_7 : decode cX7_insert 7 = .ok (.aload_n 0, 1) := by decide +kernel
theorem dX7_insert_8 : decode cX7_insert 8 = .ok (.iconst 4, 1) := by decide +kernel
theorem dX7_insert_9 : decode cX7_insert 9 = .ok (.newarray .long, 2) := by decide +kernel
theorem dX7_insert_11 : decode cX7_insert 11 = .ok (.putfield 55, 3) := by decide +kernel
theorem dX7_insert_14 : decode cX7_insert 14 = .ok (.iconst 0, 1) := by decide +kernel
theorem dX7_insert_15 : decode cX7_insert 15 = .ok (.istore 4, 2) := by decide +kernel
theorem dX7_insert_17 : decode cX7_insert 17 = .ok (.aload_n 0, 1) := by decide +kernel
theorem dX7_insert_18 : decode cX7_insert 18 = .ok (.getfield 52, 3) := by decide +kernel
theorem dX7_insert_21 : decode cX7_insert 21 = .ok (.aload_n 0, 1) := by decide +kernel
theorem dX7_insert_22 : decode cX7_insert 22 = .ok (.getfield 55, 3) := by decide +kernel
theorem dX7_insert_25 : decode cX7_insert 25 = .ok (.arraylength, 1) := by decide +kernel
theorem dX7_insert_26 : decode cX7_insert 26 = .ok (.invokestatic 24, 3) := by decide +kernel
theorem dX7_insert_29 : decode cX7_insert 29 = .ok (.istore 5, 2) := by decide +kernel
theorem dX7_insert_31 : decode cX7_insert 31 = .ok (.iload 4, 2) := by decide +kernel
theorem dX7_insert_33 : decode cX7_insert 33 = .ok (.iload 5, 2) := by decide +kernel
theorem dX7_insert_35 : decode cX7_insert 35 = .ok (.if_icmp .ge 40, 3) := by decide +kernel
theorem dX7_insert_38 : decode cX7_insert 38 = .ok (.iload 4, 2) := by decide +kernel
theorem dX7_insert_40 : decode cX7_insert 40 = .ok (.iload 5, 2) := by decide +kernel
theorem dX7_insert_42 : decode cX7_insert 42 = .ok (.iadd, 1) := by decide +kernel
theorem dX7_insert_43 : decode cX7_insert 43 = .ok (.iconst 2, 1) := by decide +kernel
theorem dX7_insert_44 : decode cX7_insert 44 = .ok (.idiv, 1) := by decide +kernel
theorem dX7_insert_45 : decode cX7_insert 45 = .ok (.istore 6, 2) := by decide +kernel
theorem dX7_insert_47 : decode cX7_insert 47 = .ok (.aload_n 0, 1) := by decide +kernel
theorem dX7_insert_48 : decode cX7_insert 48 = .ok (.getfield 55, 3) := by decide +kernel
theorem dX7_insert_51 : decode cX7_insert 51 = .ok (.iload 6, 2) := by decide +kernel
theorem dX7_insert_53 : decode cX7_insert 53 = .ok (.laload, 1) := by decide +kernel
theorem dX7_insert_54 : decode cX7_insert 54 = .ok (.lload_n 1, 1) := by decide +kernel
theorem dX7_insert_55 : decode cX7_insert 55 = .ok (.lcmp, 1) := by decide +kernel
theorem dX7_insert_56 : decode cX7_insert 56 = .ok (.ifCond .ge 12, 3) := by decide +kernel
theorem dX7_insert_59 : decode cX7_insert 59 = .ok (.iload 6, 2) := by decide +kernel
theorem dX7_insert_61 : decode cX7_insert 61 = .ok (.iconst 1, 1) := by decide +kernel
theorem dX7_insert_62 : decode cX7_insert 62 = .ok (.iadd, 1) := by decide +kernel
theorem dX7_insert_63 : decode cX7_insert 63 = .ok (.istore 4, 2) := by decide +kernel
theorem dX7_insert_65 : decode cX7_insert 65 = .ok (.goto 7, 3) := by decide +kernel
theorem dX7_insert_68 : decode cX7_insert 68 = .ok (.iload 6, 2) := by decide +kernel
theorem dX7_insert_70 : decode cX7_insert 70 = .ok (.istore 5, 2) := by decide +kernel
theorem dX7_insert_72 : decode cX7_insert 72 = .ok (.goto (-41), 3) := by decide +kernel
theorem dX7_insert_75 : decode cX7_insert 75 = .ok (.iload_n 3, 1) := by decide +kernel
theorem dX7_insert_76 : decode cX7_insert 76 = .ok (.ifCond .ne 25, 3) := by decide +kernel
theorem dX7_insert_79 : decode cX7_insert 79 = .ok (.iload 4, 2) := by decide +kernel
theorem dX7_insert_81 : decode cX7_insert 81 = .ok (.aload_n 0, 1) := by decide +kernel
theorem dX7_insert_82 : decode cX7_insert 82 = .ok (.getfield 52, 3) := by decide +kernel
theorem dX7_insert_85 : decode cX7_insert 85 = .ok (.if_icmp .ge 16, 3) := by decide +kernel
theorem dX7_insert_88 : decode cX7_insert 88 = .ok (.aload_n 0, 1) := by decide +kernel
theorem dX7_insert_89 : decode cX7_insert 89 = .ok (.getfield 55, 3) := by decide +kernel
theorem dX7_insert_92 : decode cX7_insert 92 = .ok (.iload 4, 2) := by decide +kernel
theorem dX7_insert_94 : decode cX7_insert 94 = .ok (.laload, 1) := by decide +kernel
theorem dX7_insert_95 : decode cX7_insert 95 = .ok (.lload_n 1, 1) := by decide +kernel
theorem dX7_insert_96 : decode cX7_insert 96 = .ok (.lcmp, 1) := by decide +kernel
theorem dX7_insert_97 : decode cX7_insert 97 = .ok (.ifCond .ne 4, 3) := by decide +kernel
theorem dX7_insert_100 : decode cX7_insert 100 = .ok (.return_, 1) := by decide +kernel
theorem dX7_insert_101 : decode cX7_insert 101 = .ok (.aload_n 0, 1) := by decide +kernel
theorem dX7_insert_102 : decode cX7_insert 102 = .ok (.getfield 52, 3) := by decide +kernel
theorem dX7_insert_105 : decode cX7_insert 105 = .ok (.aload_n 0, 1) := by decide +kernel
theorem dX7_insert_106 : decode cX7_insert 106 = .ok (.getfield 55, 3) := by decide +kernel
theorem dX7_insert_109 : decode cX7_insert 109 = .ok (.arraylength, 1) := by decide +kernel
theorem dX7_insert_110 : decode cX7_insert 110 = .ok (.if_icmp .lt 20, 3) := by decide +kernel
theorem dX7_insert_113 : decode cX7_insert 113 = .ok (.aload_n 0, 1) := by decide +kernel
theorem dX7_insert_114 : decode cX7_insert 114 = .ok (.aload_n 0, 1) := by decide +kernel
theorem dX7_insert_115 : decode cX7_insert 115 = .ok (.getfield 55, 3) := by decide +kernel
theorem dX7_insert_118 : decode cX7_insert 118 = .ok (.iconst 2, 1) := by decide +kernel
theorem dX7_insert_119 : decode cX7_insert 119 = .ok (.aload_n 0, 1) := by decide +kernel
theorem dX7_insert_120 : decode cX7_insert 120 = .ok (.getfield 52, 3) := by decide +kernel
theorem dX7_insert_123 : decode cX7_insert 123 = .ok (.imul, 1) := by decide +kernel
theorem dX7_insert_124 : decode cX7_insert 124 = .ok (.invokestatic 64, 3) := by decide +kernel
theorem dX7_insert_127 : decode cX7_insert 127 = .ok (.putfield 55, 3) := by decide +kernel
theorem dX7_insert_130 : decode cX7_insert 130 = .ok (.aload_n 0, 1) := by decide +kernel
theorem dX7_insert_131 : decode cX7_insert 131 = .ok (.getfield 55, 3) := by decide +kernel
theorem dX7_insert_134 : decode cX7_insert 134 = .ok (.iload 4, 2) := by decide +kernel
theorem dX7_insert_136 : decode cX7_insert 136 = .ok (.aload_n 0, 1) := by decide +kernel
theorem dX7_insert_137 : decode cX7_insert 137 = .ok (.getfield 55, 3) := by decide +kernel
theorem dX7_insert_140 : decode cX7_insert 140 = .ok (.iload 4, 2) := by decide +kernel
theorem dX7_insert_142 : decode cX7_insert 142 = .ok (.iconst 1, 1) := by decide +kernel
theorem dX7_insert_143 : decode cX7_insert 143 = .ok (.iadd, 1) := by decide +kernel
theorem dX7_insert_144 : decode cX7_insert 144 = .ok (.aload_n 0, 1) := by decide +kernel
theorem dX7_insert_145 : decode cX7_insert 145 = .ok (.getfield 52, 3) := by decide +kernel
theorem dX7_insert_148 : decode cX7_insert 148 = .ok (.iload 4, 2) := by decide +kernel
theorem dX7_insert_150 : decode cX7_insert 150 = .ok (.isub, 1) := by decide +kernel
theorem dX7_insert_151 : decode cX7_insert 151 = .ok (.invokestatic 70, 3) := by decide +kernel
theorem dX7_insert_154 : decode cX7_insert 154 = .ok (.aload_n 0, 1) := by decide +kernel
theorem dX7_insert_155 : decode cX7_insert 155 = .ok (.getfield 55, 3) := by decide +kernel
theorem dX7_insert_158 : decode cX7_insert 158 = .ok (.iload 4, 2) := by decide +kernel
theorem dX7_insert_160 : decode cX7_insert 160 = .ok (.lload_n 1, 1) := by decide +kernel
theorem dX7_insert_161 : decode cX7_insert 161 = .ok (.lastore, 1) := by decide +kernel
theorem dX7_insert_162 : decode cX7_insert 162 = .ok (.aload_n 0, 1) := by decide +kernel
theorem dX7_insert_163 : decode cX7_insert 163 = .ok (.dup, 1) := by decide +kernel
theorem dX7_insert_164 : decode cX7_insert 164 = .ok (.getfield 52, 3) := by decide +kernel
theorem dX7_insert_167 : decode cX7_insert 167 = .ok (.iconst 1, 1) := by decide +kernel
theorem dX7_insert_168 : decode cX7_insert 168 = .ok (.iadd, 1) := by decide +kernel
theorem dX7_insert_169 : decode cX7_insert 169 = .ok (.putfield 52, 3) := by decide +kernel
theorem dX7_insert_172 : decode cX7_insert 172 = .ok (.return_, 1) := by decide +kernel
theorem dX8_init_0 : decode cX8_init 0 = .ok (.aload_n 0, 1) := by decide +kernel
theorem dX8_init_1 : decode cX8_init 1 = .ok (.iload_n 2, 1) := by decide +kernel
theorem dX8_init_2 : decode cX8_init 2 = .ok (.invokespecial 3, 3) := by decide +kernel
theorem dX8_init_5 : decode cX8_init 5 = .ok (.aload_n 0, 1) := by decide +kernel
theorem dX8_init_6 : decode cX8_init 6 = .ok (.sipush 1000, 3) := by decide +kernel
theorem dX8_init_9 : decode cX8_init 9 = .ok (.anewarray 9, 3) := by decide +kernel
theorem dX8_init_12 : decode cX8_init 12 = .ok (.putfield 11, 3) := by decide +kernel
theorem dX8_init_15 : decode cX8_init 15 = .ok (.aload_n 0, 1) := by decide +kernel
theorem dX8_init_16 : decode cX8_init 16 = .ok (.new 17, 3) := by decide +kernel
theorem dX8_init_19 : decode cX8_init 19 = .ok (.dup, 1) := by decide +kernel
theorem dX8_init_20 : decode cX8_init 20 = .ok (.invokespecial 19, 3) := by decide +kernel
theorem dX8_init_23 : decode cX8_init 23 = .ok (.putfield 22, 3) := by decide +kernel
theorem dX8_init_26 : decode cX8_init 26 = .ok (.aload_n 0, 1) := by decide +kernel
theorem dX8_init_27 : decode cX8_init 27 = .ok (.new 17, 3) := by decide +kernel
theorem dX8_init_30 : decode cX8_init 30 = .ok (.dup, 1) := by decide +kernel
theorem dX8_init_31 : decode cX8_init 31 = .ok (.invokespecial 19, 3) := by decide +kernel
theorem dX8_init_34 : decode cX8_init 34 = .ok (.putfield 26, 3) := by decide +kernel
theorem dX8_init_37 : decode cX8_init 37 = .ok (.aload_n 0, 1) := by decide +kernel
theorem dX8_init_38 : decode cX8_init 38 = .ok (.iload_n 1, 1) := by decide +kernel
theorem dX8_init_39 : decode cX8_init 39 = .ok (.putfield 29, 3) := by decide +kernel
theorem dX8_init_42 : decode cX8_init 42 = .ok (.aload_n 0, 1) := by decide +kernel
theorem dX8_init_43 : decode cX8_init 43 = .ok (.iload_n 2, 1) := by decide +kernel
theorem dX8_init_44 : decode cX8_init 44 = .ok (.bipush 6, 2) := by decide +kernel
theorem dX8_init_46 : decode cX8_init 46 = .ok (.if_icmp .ne 7, 3) := by decide +kernel
theorem dX8_init_49 : decode cX8_init 49 = .ok (.iconst 1, 1) := by decide +kernel
theorem dX8_init_50 : decode cX8_init 50 = .ok (.goto 4, 3) := by decide +kernel
theorem dX8_init_53 : decode cX8_init 53 = .ok (.iconst 0, 1) := by decide +kernel
theorem dX8_init_54 : decode cX8_init 54 = .ok (.putfield 33, 3) := by decide +kernel
theorem dX8_init_57 : decode cX8_init 57 = .ok (.aload_n 0, 1) := by decide +kernel
theorem dX8_init_58 : decode cX8_init 58 = .ok (.aload_n 0, 1) := by decide +kernel
theorem dX8_init_59 : decode cX8_init 59 = .ok (.getfield 33, 3) := by decide +kernel
theorem dX8_init_62 : decode cX8_init 62 = .ok (.ifCond .eq 9, 3) := by decide +kernel
theorem dX8_init_65 : decode cX8_init 65 = .ok (.iload_n 3, 1) := by decide +kernel
theorem dX8_init_66 : decode cX8_init 66 = .ok (.iconst 1, 1) := by decide +kernel
theorem dX8_init_67 : decode cX8_init 67 = .ok (.iadd, 1) := by decide +kernel
theorem dX8_init_68 : decode cX8_init 68 = .ok (.goto 4, 3) := by decide +kernel
theorem dX8_init_71 : decode cX8_init 71 = .ok (.iload_n 3, 1) := by decide +kernel
theorem dX8_init_72 : decode cX8_init 72 = .ok (.putfield 37, 3) := by decide +kernel
theorem dX8_init_75 : decode cX8_init 75 = .ok (.aload_n 0, 1) := by decide +kernel
theorem dX8_init_76 : decode cX8_init 76 = .ok (.iconst 1, 1) := by decide +kernel
theorem dX8_init_77 : decode cX8_init 77 = .ok (.iload_n 2, 1) := by decide +kernel
theorem dX8_init_78 : decode cX8_init 78 = .ok (.iconst 5, 1) := by decide +kernel
theorem dX8_init_79 : decode cX8_init 79 = .ok (.if_icmp .ne 8, 3) := by decide +kernel
theorem dX8_init_82 : decode cX8_init 82 = .ok (.iload 4, 2) := by decide +kernel
theorem dX8_init_84 : decode cX8_init 84 = .ok (.goto 7, 3) := by decide +kernel
theorem dX8_init_87 : decode cX8_init 87 = .ok (.aload_n 0, 1) := by decide +kernel
theorem dX8_init_88 : decode cX8_init 88 = .ok (.getfield 37, 3) := by decide +kernel
theorem dX8_init_91 : decode cX8_init 91 = .ok (.invokestatic 40, 3) := by decide +kernel
theorem dX8_init_94 : decode cX8_init 94 = .ok (.putfield 46, 3) := by decide +kernel
theorem dX8_init_97 : decode cX8_init 97 = .ok (.aload_n 0, 1) := by decide +kernel
