theorem dX0_init_0 : decode cX0_init 0 = .ok (.aload_n 0, 1) := by decide +kernel
theorem dX0_init_1 : decode cX0_init 1 = .ok (.invokespecial 3, 3) := by decide +kernel
theorem dX0_init_4 : decode cX0_init 4 = .ok (.aload_n 0, 1) := by decide +kernel
theorem dX0_init_5 : decode cX0_init 5 = .ok (.iconst 0, 1) := by decide +kernel
theorem dX0_init_6 : decode cX0_init 6 = .ok (.putfield 9, 3) := by decide +kernel
theorem dX0_init_9 : decode cX0_init 9 = .ok (.aload_n 0, 1) := by decide +kernel
theorem dX0_init_10 : decode cX0_init 10 = .ok (.iconst 0, 1) := by decide +kernel
theorem dX0_init_11 : decode cX0_init 11 = .ok (.putfield 15, 3) := by decide +kernel
theorem dX0_init_14 : decode cX0_init 14 = .ok (.aload_n 0, 1) := by decide +kernel
theorem dX0_init_15 : decode cX0_init 15 = .ok (.iload_n 1, 1) := by decide +kernel
theorem dX0_init_16 : decode cX0_init 16 = .ok (.newarray .long, 2) := by decide +kernel
theorem dX0_init_18 : decode cX0_init 18 = .ok (.putfield 18, 3) := by decide +kernel
theorem dX0_init_21 : decode cX0_init 21 = .ok (.aload_n 0, 1) := by decide +kernel
theorem dX0_init_22 : decode cX0_init 22 = .ok (.iload_n 1, 1) := by decide +kernel
theorem dX0_init_23 : decode cX0_init 23 = .ok (.newarray .long, 2) := by decide +kernel
theorem dX0_init_25 : decode cX0_init 25 = .ok (.putfield 22, 3) := by decide +kernel
theorem dX0_init_28 : decode cX0_init 28 = .ok (.aload_n 0, 1) := by decide +kernel
theorem dX0_init_29 : decode cX0_init 29 = .ok (.iload_n 1, 1) := by decide +kernel
theorem dX0_init_30 : decode cX0_init 30 = .ok (.newarray .int, 2) := by decide +kernel
theorem dX0_init_32 : decode cX0_init 32 = .ok (.putfield 25, 3) := by decide +kernel
theorem dX0_init_35 : decode cX0_init 35 = .ok (.aload_n 0, 1) := by decide +kernel
theorem dX0_init_36 : decode cX0_init 36 = .ok (.iload_n 1, 1) := by decide +kernel
theorem dX0_init_37 : decode cX0_init 37 = .ok (.iconst 1, 1) := by decide +kernel
theorem dX0_init_38 : decode cX0_init 38 = .ok (.iadd, 1) := by decide +kernel
theorem dX0_init_39 : decode cX0_init 39 = .ok (.newarray .long, 2) := by decide +kernel
theorem dX0_init_41 : decode cX0_init 41 = .ok (.putfield 29, 3) := by decide +kernel
theorem dX0_init_44 : decode cX0_init 44 = .ok (.aload_n 0, 1) := by decide +kernel
theorem dX0_init_45 : decode cX0_init 45 = .ok (.iload_n 1, 1) := by decide +kernel
theorem dX0_init_46 : decode cX0_init 46 = .ok (.newarray .int, 2) := by decide +kernel
theorem dX0_init_48 : decode cX0_init 48 = .ok (.putfield 32, 3) := by decide +kernel
theorem dX0_init_51 : decode cX0_init 51 = .ok (.aload_n 0, 1) := by decide +kernel
theorem dX0_init_52 : decode cX0_init 52 = .ok (.iload_n 1, 1) := by decide +kernel
theorem dX0_init_53 : decode cX0_init 53 = .ok (.putfield 35, 3) := by decide +kernel
theorem dX0_init_56 : decode cX0_init 56 = .ok (.iconst 0, 1) := by decide +kernel
theorem dX0_init_57 : decode cX0_init 57 = .ok (.istore_n 2, 1) := by decide +kernel
theorem dX0_init_58 : decode cX0_init 58 = .ok (.iload_n 2, 1) := by decide +kernel
theorem dX0_init_59 : decode cX0_init 59 = .ok (.iload_n 1, 1) := by decide +kernel
theorem dX0_init_60 : decode cX0_init 60 = .ok (.if_icmp .ge 16, 3) := by decide +kernel
theorem dX0_init_63 : decode cX0_init 63 = .ok (.aload_n 0, 1) := by decide +kernel
theorem dX0_init_64 : decode cX0_init 64 = .ok (.getfield 32, 3) := by decide +kernel
theorem dX0_init_67 : decode cX0_init 67 = .ok (.iload_n 2, 1) := by decide +kernel
theorem dX0_init_68 : decode cX0_init 68 = .ok (.iload_n 2, 1) := by decide +kernel
theorem dX0_init_69 : decode cX0_init 69 = .ok (.iastore, 1) := by decide +kernel
theorem dX0_init_70 : decode cX0_init 70 = .ok (.iinc 2 1, 3) := by decide +kernel
theorem dX0_init_73 : decode cX0_init 73 = .ok (.goto (-15), 3) := by decide +kernel
theorem dX0_init_76 : decode cX0_init 76 = .ok (.return_, 1) := by decide +kernel
theorem dX0_cellOf_0 : decode cX0_cellOf 0 = .ok (.lload_n 1, 1) := by decide +kernel
theorem dX0_cellOf_1 : decode cX0_cellOf 1 = .ok (.ldc2_w 38, 3) := by decide +kernel
theorem dX0_cellOf_4 : decode cX0_cellOf 4 = .ok (.lcmp, 1) := by decide +kernel
theorem dX0_cellOf_5 : decode cX0_cellOf 5 = .ok (.ifCond .lt 27, 3) := by decide +kernel
theorem dX0_cellOf_8 : decode cX0_cellOf 8 = .ok (.lload_n 1, 1) := by decide +kernel
theorem dX0_cellOf_9 : decode cX0_cellOf 9 = .ok (.ldc2_w 38, 3) := by decide +kernel
theorem dX0_cellOf_12 : decode cX0_cellOf 12 = .ok (.aload_n 0, 1) := by decide +kernel
theorem dX0_cellOf_13 : decode cX0_cellOf 13 = .ok (.getfield 18, 3) := by decide +kernel
theorem dX0_cellOf_16 : decode cX0_cellOf 16 = .ok (.arraylength, 1) := by decide +kernel
theorem dX0_cellOf_17 : decode cX0_cellOf 17 = .ok (.i2l, 1) := by decide +kernel
theorem dX0_cellOf_18 : decode cX0_cellOf 18 = .ok (.ladd, 1) := by decide +kernel
theorem dX0_cellOf_19 : decode cX0_cellOf 19 = .ok (.lcmp, 1) := by decide +kernel
theorem dX0_cellOf_20 : decode cX0_cellOf 20 = .ok (.ifCond .ge 12, 3) := by decide +kernel
theorem dX0_cellOf_23 : decode cX0_cellOf 23 = .ok (.lload_n 1, 1) := by decide +kernel
theorem dX0_cellOf_24 : decode cX0_cellOf 24 = .ok (.ldc2_w 38, 3) := by decide +kernel
theorem dX0_cellOf_27 : decode cX0_cellOf 27 = .ok (.lsub, 1) := by decide +kernel
theorem dX0_cellOf_28 : decode cX0_cellOf 28 = .ok (.l2i, 1) := by decide +kernel
theorem dX0_cellOf_29 : decode cX0_cellOf 29 = .ok (.goto 4, 3) := by decide +kernel
theorem dX0_cellOf_32 : decode cX0_cellOf 32 = .ok (.iconst (-1), 1) := by decide +kernel
theorem dX0_cellOf_33 : decode cX0_cellOf 33 = .ok (.ireturn, 1) := by decide +kernel
theorem dX0_car_0 : decode cX0_car 0 = .ok (.aload_n 0, 1) := by decide +kernel
theorem dX0_car_1 : decode cX0_car 1 = .ok (.lload_n 1, 1) := by decide +kernel
theorem dX0_car_2 : decode cX0_car 2 = .ok (.invokevirtual 40, 3) := by decide +kernel
theorem dX0_car_5 : decode cX0_car 5 = .ok (.istore_n 3, 1) := by decide +kernel
theorem dX0_car_6 : decode cX0_car 6 = .ok (.iload_n 3, 1) := by decide +kernel
theorem dX0_car_7 : decode cX0_car 7 = .ok (.ifCond .ge 9, 3) := by decide +kernel
theorem dX0_car_10 : decode cX0_car 10 = .ok (.ldc2_w 44, 3) := by decide +kernel
theorem dX0_car_13 : decode cX0_car 13 = .ok (.goto 9, 3) := by decide +kernel
theorem dX0_car_16 : decode cX0_car 16 = .ok (.aload_n 0, 1) := by decide +kernel
theorem dX0_car_17 : decode cX0_car 17 = .ok (.getfield 18, 3) := by decide +kernel
theorem dX0_car_20 : decode cX0_car 20 = .ok (.iload_n 3, 1) := by decide +kernel
theorem dX0_car_21 : decode cX0_car 21 = .ok (.laload, 1) := by decide +kernel
theorem dX0_car_22 : decode cX0_car 22 = .ok (.lreturn, 1) := by decide +kernel
theorem dX0_cdr_0 : decode cX0_cdr 0 = .ok (.aload_n 0, 1) := by decide +kernel
theorem dX0_cdr_1 : decode cX0_cdr 1 = .ok (.lload_n 1, 1) := by decide +kernel
theorem dX0_cdr_2 : decode cX0_cdr 2 = .ok (.invokevirtual 40, 3) := by decide +kernel
theorem dX0_cdr_5 : decode cX0_cdr 5 = .ok (.istore_n 3, 1) := by decide +kernel
theorem dX0_cdr_6 : decode cX0_cdr 6 = .ok (.iload_n 3, 1) := by decide +kernel
theorem dX0_cdr_7 : decode cX0_cdr 7 = .ok (.ifCond .ge 9, 3) := by decide +kernel
theorem dX0_cdr_10 : decode cX0_cdr 10 = .ok (.ldc2_w 44, 3) := by decide +kernel
theorem dX0_cdr_13 : decode cX0_cdr 13 = .ok (.goto 9, 3) := by decide +kernel
theorem dX0_cdr_16 : decode cX0_cdr 16 = .ok (.aload_n 0, 1) := by decide +kernel
theorem dX0_cdr_17 : decode cX0_cdr 17 = .ok (.getfield 22, 3) := by decide +kernel
theorem dX0_cdr_20 : decode cX0_cdr 20 = .ok (.iload_n 3, 1) := by decide +kernel
theorem dX0_cdr_21 : decode cX0_cdr 21 = .ok (.laload, 1) := by decide +kernel
theorem dX0_cdr_22 : decode cX0_cdr 22 = .ok (.lreturn, 1) := by decide +kernel
theorem dX0_setCdr_0 : decode cX0_setCdr 0 = .ok (.aload_n 0, 1) := by decide +kernel
theorem dX0_setCdr_1 : decode cX0_setCdr 1 = .ok (.lload_n 1, 1) := by decide +kernel
theorem dX0_setCdr_2 : decode cX0_setCdr 2 = .ok (.invokevirtual 40, 3) := by decide +kernel
theorem dX0_setCdr_5 : decode cX0_setCdr 5 = .ok (.istore 5, 2) := by decide +kernel
theorem dX0_setCdr_7 : decode cX0_setCdr 7 = .ok (.iload 5, 2) := by decide +kernel
theorem dX0_setCdr_9 : decode cX0_setCdr 9 = .ok (.ifCond .lt 11, 3) := by decide +kernel
theorem dX0_setCdr_12 : decode cX0_setCdr 12 = .ok (.aload_n 0, 1) := by decide +kernel
theorem dX0_setCdr_13 : decode cX0_setCdr 13 = .ok (.getfield 22, 3) := by decide +kernel
theorem dX0_setCdr_16 : decode cX0_setCdr 16 = .ok (.iload 5, 2) := by decide +kernel
theorem dX0_setCdr_18 : decode cX0_setCdr 18 = .ok (.lload_n 3, 1) := by decide +kernel
theorem dX0_setCdr_19 : decode cX0_setCdr 19 = .ok (.lastore, 1) := by decide +kernel
theorem dX0_setCdr_20 : decode cX0_setCdr 20 = .ok (.return_, 1) := by decide +kernel
theorem dX0_newPair_0 : decode cX0_newPair 0 = .ok (.aload_n 0, 1) := by decide +kernel
theorem dX0_newPair_1 : decode cX0_newPair 1 = .ok (.getfield 35, 3) := by decide +kernel
theorem dX0_newPair_4 : decode cX0_newPair 4 = .ok (.ifCond .gt 7, 3) := by decide +kernel
theorem dX0_newPair_7 : decode cX0_newPair 7 = .ok (.ldc2_w 44, 3) := by decide +kernel
theorem dX0_newPair_10 : decode cX0_newPair 10 = .ok (.lreturn, 1) := by decide +kernel
theorem dX0_newPair_11 : decode cX0_newPair 11 = .ok (.aload_n 0, 1) := by decide +kernel
theorem dX0_newPair_12 : decode cX0_newPair 12 = .ok (.dup, 1) := by decide +kernel
theorem dX0_newPair_13 : decode cX0_newPair 13 = .ok (.getfield 35, 3) := by decide +kernel
theorem dX0_newPair_16 : decode cX0_newPair 16 = .ok (.iconst 1, 1) := by decide +kernel
theorem dX0_newPair_17 : decode cX0_newPair 17 = .ok (.isub, 1) := by decide +kernel
theorem dX0_newPair_18 : decode cX0_newPair 18 = .ok (.putfield 35, 3) := by decide +kernel
theorem dX0_newPair_21 : decode cX0_newPair 21 = .ok (.aload_n 0, 1) := by decide +kernel
theorem dX0_newPair_22 : decode cX0_newPair 22 = .ok (.getfield 32, 3) := by decide +kernel
theorem dX0_newPair_25 : decode cX0_newPair 25 = .ok (.aload_n 0, 1) := by decide +kernel
theorem dX0_newPair_26 : decode cX0_newPair 26 = .ok (.getfield 35, 3) := by decide +kernel
theorem dX0_newPair_29 : decode cX0_newPair 29 = .ok (.iaload, 1) := by decide +kernel
theorem dX0_newPair_30 : decode cX0_newPair 30 = .ok (.istore 5, 2) := by decide +kernel
theorem dX0_newPair_32 : decode cX0_newPair 32 = .ok (.aload_n 0, 1) := by decide +kernel
theorem dX0_newPair_33 : decode cX0_newPair 33 = .ok (.getfield 18, 3) := by decide +kernel
theorem dX0_newPair_36 : decode cX0_newPair 36 = .ok (.iload 5, 2) := by decide +kernel
theorem dX0_newPair_38 : decode cX0_newPair 38 = .ok (.lload_n 1, 1) := by decide +kernel
theorem dX0_newPair_39 : decode cX0_newPair 39 = .ok (.lastore, 1) := by decide +kernel
theorem dX0_newPair_40 : decode cX0_newPair 40 = .ok (.aload_n 0, 1) := by decide +kernel
theorem dX0_newPair_41 : decode cX0_newPair 41 = .ok (.getfield 22, 3) := by decide +kernel
theorem dX0_newPair_44 : decode cX0_newPair 44 = .ok (.iload 5, 2) := by decide +kernel
theorem dX0_newPair_46 : decode cX0_newPair 46 = .ok (.lload_n 3, 1) := by decide +kernel
theorem dX0_newPair_47 : decode cX0_newPair 47 = .ok (.lastore, 1) := by decide +kernel
theorem dX0_newPair_48 : decode cX0_newPair 48 = .ok (.ldc2_w 38, 3) := by decide +kernel
theorem dX0_newPair_51 : decode cX0_newPair 51 = .ok (.iload 5, 2) := by decide +kernel
theorem dX0_newPair_53 : decode cX0_newPair 53 = .ok (.i2l, 1) := by decide +kernel
theorem dX0_newPair_54 : decode cX0_newPair 54 = .ok (.ladd, 1) := by decide +kernel
theorem dX0_newPair_55 : decode cX0_newPair 55 = .ok (.lreturn, 1) := by decide +kernel
theorem dX0_isListOf_0 : decode cX0_isListOf 0 = .ok (.lload_n 1, 1) := by decide +kernel
theorem dX0_isListOf_1 : decode cX0_isListOf 1 = .ok (.lstore 4, 2) := by decide +kernel
theorem dX0_isListOf_3 : decode cX0_isListOf 3 = .ok (.iconst 0, 1) := by decide +kernel
theorem dX0_isListOf_4 : decode cX0_isListOf 4 = .ok (.istore 6, 2) := by decide +kernel
theorem dX0_isListOf_6 : decode cX0_isListOf 6 = .ok (.iload 6, 2) := by decide +kernel
theorem dX0_isListOf_8 : decode cX0_isListOf 8 = .ok (.iload_n 3, 1) := by decide +kernel
theorem dX0_isListOf_9 : decode cX0_isListOf 9 = .ok (.if_icmp .ge 27, 3) := by decide +kernel
theorem dX0_isListOf_12 : decode cX0_isListOf 12 = .ok (.lload 4, 2) := by decide +kernel
theorem dX0_isListOf_14 : decode cX0_isListOf 14 = .ok (.invokestatic 46, 3) := by decide +kernel
theorem dX0_isListOf_17 : decode cX0_isListOf 17 = .ok (.ifCond .ne 5, 3) := by decide +kernel
theorem dX0_isListOf_20 : decode cX0_isListOf 20 = .ok (.iconst 0, 1) := by decide +kernel
theorem dX0_isListOf_21 : decode cX0_isListOf 21 = .ok (.ireturn, 1) := by decide +kernel
theorem dX0_isListOf_22 : decode cX0_isListOf 22 = .ok (.aload_n 0, 1) := by decide +kernel
theorem dX0_isListOf_23 : decode cX0_isListOf 23 = .ok (.lload 4, 2) := by decide +kernel
theorem dX0_isListOf_25 : decode cX0_isListOf 25 = .ok (.invokevirtual 52, 3) := by decide +kernel
theorem dX0_isListOf_28 : decode cX0_isListOf 28 = .ok (.lstore 4, 2) := by decide +kernel
theorem dX0_isListOf_30 : decode cX0_isListOf 30 = .ok (.iinc 6 1, 3) := by decide +kernel
theorem dX0_isListOf_33 : decode cX0_isListOf 33 = .ok (.goto (-27), 3) := by decide +kernel
theorem dX0_isListOf_36 : decode cX0_isListOf 36 = .ok (.lload 4, 2) := by decide +kernel
theorem dX0_isListOf_38 : decode cX0_isListOf 38 = .ok (.ldc2_w 44, 3) := by decide +kernel
theorem dX0_isListOf_41 : decode cX0_isListOf 41 = .ok (.lcmp, 1) := by decide +kernel
theorem dX0_isListOf_42 : decode cX0_isListOf 42 = .ok (.ifCond .ne 7, 3) := by decide +kernel
theorem dX0_isListOf_45 : decode cX0_isListOf 45 = .ok (.iconst 1, 1) := by decide +kernel
theorem dX0_isListOf_46 : decode cX0_isListOf 46 = .ok (.goto 4, 3) := by decide +kernel
theorem dX0_isListOf_49 : decode cX0_isListOf 49 = .ok (.iconst 0, 1) := by decide +kernel
theorem dX0_isListOf_50 : decode cX0_isListOf 50 = .ok (.ireturn, 1) := by decide +kernel
theorem dX0_isListOfNames_0 : decode cX0_isListOfNames 0 = .ok (.lload_n 1, 1) := by decide +kernel
theorem dX0_isListOfNames_1 : decode cX0_isListOfNames 1 = .ok (.lstore 4, 2) := by decide +kernel
theorem dX0_isListOfNames_3 : decode cX0_isListOfNames 3 = .ok (.iconst 0, 1) := by decide +kernel
theorem dX0_isListOfNames_4 : decode cX0_isListOfNames 4 = .ok (.istore 6, 2) := by decide +kernel
theorem dX0_isListOfNames_6 : decode cX0_isListOfNames 6 = .ok (.iload 6, 2) := by decide +kernel
theorem dX0_isListOfNames_8 : decode cX0_isListOfNames 8 = .ok (.iload_n 3, 1) := by decide +kernel
theorem dX0_isListOfNames_9 : decode cX0_isListOfNames 9 = .ok (.if_icmp .ge 39, 3) := by decide +kernel
theorem dX0_isListOfNames_12 : decode cX0_isListOfNames 12 = .ok (.lload 4, 2) := by decide +kernel
theorem dX0_isListOfNames_14 : decode cX0_isListOfNames 14 = .ok (.invokestatic 46, 3) := by decide +kernel
theorem dX0_isListOfNames_17 : decode cX0_isListOfNames 17 = .ok (.ifCond .eq 15, 3) := by decide +kernel
theorem dX0_isListOfNames_20 : decode cX0_isListOfNames 20 = .ok (.aload_n 0, 1) := by decide +kernel
theorem dX0_isListOfNames_21 : decode cX0_isListOfNames 21 = .ok (.lload 4, 2) := by decide +kernel
theorem dX0_isListOfNames_23 : decode cX0_isListOfNames 23 = .ok (.invokevirtual 56, 3) := by decide +kernel
theorem dX0_isListOfNames_26 : decode cX0_isListOfNames 26 = .ok (.invokestatic 59, 3) := by decide +kernel
theorem dX0_isListOfNames_29 : decode cX0_isListOfNames 29 = .ok (.ifCond .ne 5, 3) := by decide +kernel
theorem dX0_isListOfNames_32 : decode cX0_isListOfNames 32 = .ok (.iconst 0, 1) := by decide +kernel
theorem dX0_isListOfNames_33 : decode cX0_isListOfNames 33 = .ok (.ireturn, 1) := by decide +kernel
theorem dX0_isListOfNames_34 : decode cX0_isListOfNames 34 = .ok (.aload_n 0, 1) := by decide +kernel
theorem dX0_isListOfNames_35 : decode cX0_isListOfNames 35 = .ok (.lload 4, 2) := by decide +kernel
theorem dX0_isListOfNames_37 : decode cX0_isListOfNames 37 = .ok (.invokevirtual 52, 3) := by decide +kernel
theorem dX0_isListOfNames_40 : decode cX0_isListOfNames 40 = .ok (.lstore 4, 2) := by decide +kernel
theorem dX0_isListOfNames_42 : decode cX0_isListOfNames 42 = .ok (.iinc 6 1, 3) := by decide +kernel
theorem dX0_isListOfNames_45 : decode cX0_isListOfNames 45 = .ok (.goto (-39), 3) := by decide +kernel
theorem dX0_isListOfNames_48 : decode cX0_isListOfNames 48 = .ok (.lload 4, 2) := by decide +kernel
theorem dX0_isListOfNames_50 : decode cX0_isListOfNames 50 = .ok (.ldc2_w 44, 3) := by decide +kernel
theorem dX0_isListOfNames_53 : decode cX0_isListOfNames 53 = .ok (.lcmp, 1) := by decide +kernel
theorem dX0_isListOfNames_54 : decode cX0_isListOfNames 54 = .ok (.ifCond .ne 7, 3) := by decide +kernel
theorem dX0_isListOfNames_57 : decode cX0_isListOfNames 57 = .ok (.iconst 1, 1) := by decide +kernel
theorem dX0_isListOfNames_58 : decode cX0_isListOfNames 58 = .ok (.goto 4, 3) := by decide +kernel
theorem dX0_isListOfNames_61 : decode cX0_isListOfNames 61 = .ok (.iconst 0, 1) := by decide +kernel
theorem dX0_isListOfNames_62 : decode cX0_isListOfNames 62 = .ok (.ireturn, 1) := by decide +kernel
theorem dX0_beginMarking_0 : decode cX0_beginMarking 0 = .ok (.aload_n 0, 1) := by decide +kernel
theorem dX0_beginMarking_1 : decode cX0_beginMarking 1 = .ok (.dup, 1) := by decide +kernel
theorem dX0_beginMarking_2 : decode cX0_beginMarking 2 = .ok (.getfield 9, 3) := by decide +kernel
theorem dX0_beginMarking_5 : decode cX0_beginMarking 5 = .ok (.iconst 1, 1) := by decide +kernel
theorem dX0_beginMarking_6 : decode cX0_beginMarking 6 = .ok (.iadd, 1) := by decide +kernel
theorem dX0_beginMarking_7 : decode cX0_beginMarking 7 = .ok (.putfield 9, 3) := by decide +kernel
theorem dX0_beginMarking_10 : decode cX0_beginMarking 10 = .ok (.aload_n 0, 1) := by decide +kernel
theorem dX0_beginMarking_11 : decode cX0_beginMarking 11 = .ok (.iconst 0, 1) := by decide +kernel
theorem dX0_beginMarking_12 : decode cX0_beginMarking 12 = .ok (.putfield 15, 3) := by decide +kernel
theorem dX0_beginMarking_15 : decode cX0_beginMarking 15 = .ok (.return_, 1) := by decide +kernel
theorem dX0_mark_0 : decode cX0_mark 0 = .ok (.iconst 0, 1) := by decide +kernel
theorem dX0_mark_1 : decode cX0_mark 1 = .ok (.istore_n 3, 1) := by decide +kernel
theorem dX0_mark_2 : decode cX0_mark 2 = .ok (.iload_n 3, 1) := by decide +kernel
theorem dX0_mark_3 : decode cX0_mark 3 = .ok (.iload_n 2, 1) := by decide +kernel
theorem dX0_mark_4 : decode cX0_mark 4 = .ok (.if_icmp .ge 200, 3) := by decide +kernel
theorem dX0_mark_7 : decode cX0_mark 7 = .ok (.iload_n 3, 1) := by decide +kernel
theorem dX0_mark_8 : decode cX0_mark 8 = .ok (.aload_n 1, 1) := by decide +kernel
theorem dX0_mark_9 : decode cX0_mark 9 = .ok (.arraylength, 1) := by decide +kernel
theorem dX0_mark_10 : decode cX0_mark 10 = .ok (.if_icmp .ge 194, 3) := by decide +kernel
theorem dX0_mark_13 : decode cX0_mark 13 = .ok (.aload_n 0, 1) := by decide +kernel
theorem dX0_mark_14 : decode cX0_mark 14 = .ok (.getfield 29, 3) := by decide +kernel
theorem dX0_mark_17 : decode cX0_mark 17 = .ok (.iconst 0, 1) := by decide +kernel
theorem dX0_mark_18 : decode cX0_mark 18 = .ok (.aload_n 1, 1) := by decide +kernel
theorem dX0_mark_19 : decode cX0_mark 19 = .ok (.iload_n 3, 1) := by decide +kernel
theorem dX0_mark_20 : decode cX0_mark 20 = .ok (.laload, 1) := by decide +kernel
theorem dX0_mark_21 : decode cX0_mark 21 = .ok (.lastore, 1) := by decide +kernel
theorem dX0_mark_22 : decode cX0_mark 22 = .ok (.iconst 1, 1) := by decide +kernel
theorem dX0_mark_23 : decode cX0_mark 23 = .ok (.istore 4, 2) := by decide +kernel
theorem dX0_mark_25 : decode cX0_mark 25 = .ok (.iconst 0, 1) := by decide +kernel
theorem dX0_mark_26 : decode cX0_mark 26 = .ok (.istore 5, 2) := by decide +kernel
theorem dX0_mark_28 : decode cX0_mark 28 = .ok (.iload 5, 2) := by decide +kernel
theorem dX0_mark_30 : decode cX0_mark 30 = .ok (.iconst 2, 1) := by decide +kernel
theorem dX0_mark_31 : decode cX0_mark 31 = .ok (.aload_n 0, 1) := by decide +kernel
theorem dX0_mark_32 : decode cX0_mark 32 = .ok (.getfield 18, 3) := by decide +kernel
theorem dX0_mark_35 : decode cX0_mark 35 = .ok (.arraylength, 1) := by decide +kernel
theorem dX0_mark_36 : decode cX0_mark 36 = .ok (.imul, 1) := by decide +kernel
theorem dX0_mark_37 : decode cX0_mark 37 = .ok (.if_icmp .gt 161, 3) := by decide +kernel
theorem dX0_mark_40 : decode cX0_mark 40 = .ok (.iload 4, 2) := by decide +kernel
theorem dX0_mark_42 : decode cX0_mark 42 = .ok (.ifCond .le 156, 3) := by decide +kernel
theorem dX0_mark_45 : decode cX0_mark 45 = .ok (.iinc 4 (-1), 3) := by decide +kernel
theorem dX0_mark_48 : decode cX0_mark 48 = .ok (.aload_n 0, 1) := by decide +kernel
theorem dX0_mark_49 : decode cX0_mark 49 = .ok (.getfield 29, 3) := by decide +kernel
theorem dX0_mark_52 : decode cX0_mark 52 = .ok (.iload 4, 2) := by decide +kernel
theorem dX0_mark_54 : decode cX0_mark 54 = .ok (.laload, 1) := by decide +kernel
theorem dX0_mark_55 : decode cX0_mark 55 = .ok (.lstore 6, 2) := by decide +kernel
theorem dX0_mark_57 : decode cX0_mark 57 = .ok (.lload 6, 2) := by decide +kernel
theorem dX0_mark_59 : decode cX0_mark 59 = .ok (.ldc2_w 38, 3) := by decide +kernel
theorem dX0_mark_62 : decode cX0_mark 62 = .ok (.lcmp, 1) := by decide +kernel
theorem dX0_mark_63 : decode cX0_mark 63 = .ok (.ifCond .lt 23, 3) := by decide +kernel
theorem dX0_mark_66 : decode cX0_mark 66 = .ok (.lload 6, 2) := by decide +kernel
theorem dX0_mark_68 : decode cX0_mark 68 = .ok (.ldc2_w 38, 3) := by decide +kernel
theorem dX0_mark_71 : decode cX0_mark 71 = .ok (.aload_n 0, 1) := by decide +kernel
theorem dX0_mark_72 : decode cX0_mark 72 = .ok (.getfield 18, 3) := by decide +kernel
theorem dX0_mark_75 : decode cX0_mark 75 = .ok (.arraylength, 1) := by decide +kernel
theorem dX0_mark_76 : decode cX0_mark 76 = .ok (.i2l, 1) := by decide +kernel
theorem dX0_mark_77 : decode cX0_mark 77 = .ok (.ladd, 1) := by decide +kernel
theorem dX0_mark_78 : decode cX0_mark 78 = .ok (.lcmp, 1) := by decide +kernel
theorem dX0_mark_79 : decode cX0_mark 79 = .ok (.ifCond .ge 7, 3) := by decide +kernel
theorem dX0_mark_82 : decode cX0_mark 82 = .ok (.iconst 1, 1) := by decide +kernel
theorem dX0_mark_83 : decode cX0_mark 83 = .ok (.goto 4, 3) := by decide +kernel
theorem dX0_mark_86 : decode cX0_mark 86 = .ok (.iconst 0, 1) := by decide +kernel
theorem dX0_mark_87 : decode cX0_mark 87 = .ok (.istore 8, 2) := by decide +kernel
theorem dX0_mark_89 : decode cX0_mark 89 = .ok (.iload 8, 2) := by decide +kernel
theorem dX0_mark_91 : decode cX0_mark 91 = .ok (.ifCond .eq 13, 3) := by decide +kernel
theorem dX0_mark_94 : decode cX0_mark 94 = .ok (.lload 6, 2) := by decide +kernel
theorem dX0_mark_96 : decode cX0_mark 96 = .ok (.ldc2_w 38, 3) := by decide +kernel
theorem dX0_mark_99 : decode cX0_mark 99 = .ok (.lsub, 1) := by decide +kernel
theorem dX0_mark_100 : decode cX0_mark 100 = .ok (.l2i, 1) := by decide +kernel
theorem dX0_mark_101 : decode cX0_mark 101 = .ok (.goto 4, 3) := by decide +kernel
theorem dX0_mark_104 : decode cX0_mark 104 = .ok (.iconst 0, 1) := by decide +kernel
theorem dX0_mark_105 : decode cX0_mark 105 = .ok (.istore 9, 2) := by decide +kernel
theorem dX0_mark_107 : decode cX0_mark 107 = .ok (.iload 8, 2) := by decide +kernel
theorem dX0_mark_109 : decode cX0_mark 109 = .ok (.ifCond .eq 83, 3) := by decide +kernel
theorem dX0_mark_112 : decode cX0_mark 112 = .ok (.aload_n 0, 1) := by decide +kernel
theorem dX0_mark_113 : decode cX0_mark 113 = .ok (.getfield 25, 3) := by decide +kernel
theorem dX0_mark_116 : decode cX0_mark 116 = .ok (.iload 9, 2) := by decide +kernel
theorem dX0_mark_118 : decode cX0_mark 118 = .ok (.iaload, 1) := by decide +kernel
theorem dX0_mark_119 : decode cX0_mark 119 = .ok (.aload_n 0, 1) := by decide +kernel
theorem dX0_mark_120 : decode cX0_mark 120 = .ok (.getfield 9, 3) := by decide +kernel
theorem dX0_mark_123 : decode cX0_mark 123 = .ok (.if_icmp .eq 69, 3) := by decide +kernel
theorem dX0_mark_126 : decode cX0_mark 126 = .ok (.iload 4, 2) := by decide +kernel
theorem dX0_mark_128 : decode cX0_mark 128 = .ok (.iconst 1, 1) := by decide +kernel
theorem dX0_mark_129 : decode cX0_mark 129 = .ok (.iadd, 1) := by decide +kernel
theorem dX0_mark_130 : decode cX0_mark 130 = .ok (.aload_n 0, 1) := by decide +kernel
theorem dX0_mark_131 : decode cX0_mark 131 = .ok (.getfield 29, 3) := by decide +kernel
theorem dX0_mark_134 : decode cX0_mark 134 = .ok (.arraylength, 1) := by decide +kernel
theorem dX0_mark_135 : decode cX0_mark 135 = .ok (.if_icmp .ge 57, 3) := by decide +kernel
theorem dX0_mark_138 : decode cX0_mark 138 = .ok (.aload_n 0, 1) := by decide +kernel
theorem dX0_mark_139 : decode cX0_mark 139 = .ok (.getfield 25, 3) := by decide +kernel
theorem dX0_mark_142 : decode cX0_mark 142 = .ok (.iload 9, 2) := by decide +kernel
theorem dX0_mark_144 : decode cX0_mark 144 = .ok (.aload_n 0, 1) := by decide +kernel
theorem dX0_mark_145 : decode cX0_mark 145 = .ok (.getfield 9, 3) := by decide +kernel
theorem dX0_mark_148 : decode cX0_mark 148 = .ok (.iastore, 1) := by decide +kernel
theorem dX0_mark_149 : decode cX0_mark 149 = .ok (.aload_n 0, 1) := by decide +kernel
theorem dX0_mark_150 : decode cX0_mark 150 = .ok (.dup, 1) := by decide +kernel
theorem dX0_mark_151 : decode cX0_mark 151 = .ok (.getfield 15, 3) := by decide +kernel
theorem dX0_mark_154 : decode cX0_mark 154 = .ok (.iconst 1, 1) := by decide +kernel
theorem dX0_mark_155 : decode cX0_mark 155 = .ok (.iadd, 1) := by decide +kernel
theorem dX0_mark_156 : decode cX0_mark 156 = .ok (.putfield 15, 3) := by decide +kernel
theorem dX0_mark_159 : decode cX0_mark 159 = .ok (.aload_n 0, 1) := by decide +kernel
theorem dX0_mark_160 : decode cX0_mark 160 = .ok (.getfield 29, 3) := by decide +kernel
theorem dX0_mark_163 : decode cX0_mark 163 = .ok (.iload 4, 2) := by decide +kernel
theorem dX0_mark_165 : decode cX0_mark 165 = .ok (.aload_n 0, 1) := by decide +kernel
theorem dX0_mark_166 : decode cX0_mark 166 = .ok (.getfield 22, 3) := by decide +kernel
theorem dX0_mark_169 : decode cX0_mark 169 = .ok (.iload 9, 2) := by decide +kernel
theorem dX0_mark_171 : decode cX0_mark 171 = .ok (.laload, 1) := by decide +kernel
theorem dX0_mark_172 : decode cX0_mark 172 = .ok (.lastore, 1) := by decide +kernel
theorem dX0_mark_173 : decode cX0_mark 173 = .ok (.aload_n 0, 1) := by decide +kernel
theorem dX0_mark_174 : decode cX0_mark 174 = .ok (.getfield 29, 3) := by decide +kernel
theorem dX0_mark_177 : decode cX0_mark 177 = .ok (.iload 4, 2) := by decide +kernel
theorem dX0_mark_179 : decode cX0_mark 179 = .ok (.iconst 1, 1) := by decide +kernel
theorem dX0_mark_180 : decode cX0_mark 180 = .ok (.iadd, 1) := by decide +kernel
theorem dX0_mark_181 : decode cX0_mark 181 = .ok (.aload_n 0, 1) := by decide +kernel
theorem dX0_mark_182 : decode cX0_mark 182 = .ok (.getfield 18, 3) := by decide +kernel
theorem dX0_mark_185 : decode cX0_mark 185 = .ok (.iload 9, 2) := by decide +kernel
theorem dX0_mark_187 : decode cX0_mark 187 = .ok (.laload, 1) := by decide +kernel
theorem dX0_mark_188 : decode cX0_mark 188 = .ok (.lastore, 1) := by decide +kernel
theorem dX0_mark_189 : decode cX0_mark 189 = .ok (.iinc 4 2, 3) := by decide +kernel
theorem dX0_mark_192 : decode cX0_mark 192 = .ok (.iinc 5 1, 3) := by decide +kernel
theorem dX0_mark_195 : decode cX0_mark 195 = .ok (.goto (-167), 3) := by decide +kernel
theorem dX0_mark_198 : decode cX0_mark 198 = .ok (.iinc 3 1, 3) := by decide +kernel
theorem dX0_mark_201 : decode cX0_mark 201 = .ok (.goto (-199), 3) := by decide +kernel
theorem dX0_mark_204 : decode cX0_mark 204 = .ok (.return_, 1) := by decide +kernel
theorem dX0_sweep_0 : decode cX0_sweep 0 = .ok (.aload_n 0, 1) := by decide +kernel
theorem dX0_sweep_1 : decode cX0_sweep 1 = .ok (.iconst 0, 1) := by decide +kernel
theorem dX0_sweep_2 : decode cX0_sweep 2 = .ok (.putfield 35, 3) := by decide +kernel
theorem dX0_sweep_5 : decode cX0_sweep 5 = .ok (.iconst 0, 1) := by decide +kernel
theorem dX0_sweep_6 : decode cX0_sweep 6 = .ok (.istore_n 1, 1) := by decide +kernel
theorem dX0_sweep_7 : decode cX0_sweep 7 = .ok (.iload_n 1, 1) := by decide +kernel
theorem dX0_sweep_8 : decode cX0_sweep 8 = .ok (.aload_n 0, 1) := by decide +kernel
theorem dX0_sweep_9 : decode cX0_sweep 9 = .ok (.getfield 18, 3) := by decide +kernel
theorem dX0_sweep_12 : decode cX0_sweep 12 = .ok (.arraylength, 1) := by decide +kernel
theorem dX0_sweep_13 : decode cX0_sweep 13 = .ok (.if_icmp .ge 42, 3) := by decide +kernel
theorem dX0_sweep_16 : decode cX0_sweep 16 = .ok (.aload_n 0, 1) := by decide +kernel
theorem dX0_sweep_17 : decode cX0_sweep 17 = .ok (.getfield 25, 3) := by decide +kernel
theorem dX0_sweep_20 : decode cX0_sweep 20 = .ok (.iload_n 1, 1) := by decide +kernel
theorem dX0_sweep_21 : decode cX0_sweep 21 = .ok (.iaload, 1) := by decide +kernel
theorem dX0_sweep_22 : decode cX0_sweep 22 = .ok (.aload_n 0, 1) := by decide +kernel
theorem dX0_sweep_23 : decode cX0_sweep 23 = .ok (.getfield 9, 3) := by decide +kernel
theorem dX0_sweep_26 : decode cX0_sweep 26 = .ok (.if_icmp .eq 23, 3) := by decide +kernel
theorem dX0_sweep_29 : decode cX0_sweep 29 = .ok (.aload_n 0, 1) := by decide +kernel
theorem dX0_sweep_30 : decode cX0_sweep 30 = .ok (.getfield 32, 3) := by decide +kernel
theorem dX0_sweep_33 : decode cX0_sweep 33 = .ok (.aload_n 0, 1) := by decide +kernel
theorem dX0_sweep_34 : decode cX0_sweep 34 = .ok (.getfield 35, 3) := by decide +kernel
theorem dX0_sweep_37 : decode cX0_sweep 37 = .ok (.iload_n 1, 1) := by decide +kernel
theorem dX0_sweep_38 : decode cX0_sweep 38 = .ok (.iastore, 1) := by decide +kernel
theorem dX0_sweep_39 : decode cX0_sweep 39 = .ok (.aload_n 0, 1) := by decide +kernel
theorem dX0_sweep_40 : decode cX0_sweep 40 = .ok (.dup, 1) := by decide +kernel
theorem dX0_sweep_41 : decode cX0_sweep 41 = .ok (.getfield 35, 3) := by decide +kernel
theorem dX0_sweep_44 : decode cX0_sweep 44 = .ok (.iconst 1, 1) := by decide +kernel
theorem dX0_sweep_45 : decode cX0_sweep 45 = .ok (.iadd, 1) := by decide +kernel
theorem dX0_sweep_46 : decode cX0_sweep 46 = .ok (.putfield 35, 3) := by decide +kernel
theorem dX0_sweep_49 : decode cX0_sweep 49 = .ok (.iinc 1 1, 3) := by decide +kernel
theorem dX0_sweep_52 : decode cX0_sweep 52 = .ok (.goto (-45), 3) := by decide +kernel
theorem dX0_sweep_55 : decode cX0_sweep 55 = .ok (.return_, 1) := by decide +kernel
theorem dX1_init_0 : decode cX1_init 0 = .ok (.aload_n 0, 1) := by decide +kernel
theorem dX1_init_1 : decode cX1_init 1 = .ok (.invokespecial 1, 3) := by decide +kernel
theorem dX1_init_4 : decode cX1_init 4 = .ok (.aload_n 0, 1) := by decide +kernel
theorem dX1_init_5 : decode cX1_init 5 = .ok (.iconst 2, 1) := by decide +kernel
theorem dX1_init_6 : decode cX1_init 6 = .ok (.newarray .long, 2) := by decide +kernel
theorem dX1_init_8 : decode cX1_init 8 = .ok (.putfield 7, 3) := by decide +kernel
theorem dX1_init_11 : decode cX1_init 11 = .ok (.aload_n 0, 1) := by decide +kernel
theorem dX1_init_12 : decode cX1_init 12 = .ok (.aload_n 1, 1) := by decide +kernel
theorem dX1_init_13 : decode cX1_init 13 = .ok (.putfield 13, 3) := by decide +kernel
theorem dX1_init_16 : decode cX1_init 16 = .ok (.aload_n 0, 1) := by decide +kernel
theorem dX1_init_17 : decode cX1_init 17 = .ok (.aload_n 2, 1) := by decide +kernel
theorem dX1_init_18 : decode cX1_init 18 = .ok (.putfield 17, 3) := by decide +kernel
theorem dX1_init_21 : decode cX1_init 21 = .ok (.aload_n 0, 1) := by decide +kernel
theorem dX1_init_22 : decode cX1_init 22 = .ok (.aload_n 3, 1) := by decide +kernel
theorem dX1_init_23 : decode cX1_init 23 = .ok (.putfield 21, 3) := by decide +kernel
theorem dX1_init_26 : decode cX1_init 26 = .ok (.return_, 1) := by decide +kernel
theorem dX1_pairsOfGlobals_0 : decode cX1_pairsOfGlobals 0 = .ok (.aload_n 0, 1) := by decide +kernel
theorem dX1_pairsOfGlobals_1 : decode cX1_pairsOfGlobals 1 = .ok (.getfield 13, 3) := by decide +kernel
theorem dX1_pairsOfGlobals_4 : decode cX1_pairsOfGlobals 4 = .ok (.invokevirtual 25, 3) := by decide +kernel
theorem dX1_pairsOfGlobals_7 : decode cX1_pairsOfGlobals 7 = .ok (.aload_n 0, 1) := by decide +kernel
theorem dX1_pairsOfGlobals_8 : decode cX1_pairsOfGlobals 8 = .ok (.getfield 13, 3) := by decide +kernel
theorem dX1_pairsOfGlobals_11 : decode cX1_pairsOfGlobals 11 = .ok (.aload_n 0, 1) := by decide +kernel
theorem dX1_pairsOfGlobals_12 : decode cX1_pairsOfGlobals 12 = .ok (.getfield 17, 3) := by decide +kernel
theorem dX1_pairsOfGlobals_15 : decode cX1_pairsOfGlobals 15 = .ok (.getfield 30, 3) := by decide +kernel
theorem dX1_pairsOfGlobals_18 : decode cX1_pairsOfGlobals 18 = .ok (.aload_n 0, 1) := by decide +kernel
theorem dX1_pairsOfGlobals_19 : decode cX1_pairsOfGlobals 19 = .ok (.getfield 17, 3) := by decide +kernel
theorem dX1_pairsOfGlobals_22 : decode cX1_pairsOfGlobals 22 = .ok (.getfield 35, 3) := by decide +kernel
theorem dX1_pairsOfGlobals_25 : decode cX1_pairsOfGlobals 25 = .ok (.invokevirtual 39, 3) := by decide +kernel
theorem dX1_pairsOfGlobals_28 : decode cX1_pairsOfGlobals 28 = .ok (.aload_n 0, 1) := by decide +kernel
theorem dX1_pairsOfGlobals_29 : decode cX1_pairsOfGlobals 29 = .ok (.getfield 13, 3) := by decide +kernel
theorem dX1_pairsOfGlobals_32 : decode cX1_pairsOfGlobals 32 = .ok (.getfield 43, 3) := by decide +kernel
theorem dX1_pairsOfGlobals_35 : decode cX1_pairsOfGlobals 35 = .ok (.ireturn, 1) := by decide +kernel
theorem dX1_hasRoom_0 : decode cX1_hasRoom 0 = .ok (.aload_n 0, 1) := by decide +kernel
theorem dX1_hasRoom_1 : decode cX1_hasRoom 1 = .ok (.getfield 13, 3) := by decide +kernel
theorem dX1_hasRoom_4 : decode cX1_hasRoom 4 = .ok (.getfield 46, 3) := by decide +kernel
theorem dX1_hasRoom_7 : decode cX1_hasRoom 7 = .ok (.iload_n 1, 1) := by decide +kernel
theorem dX1_hasRoom_8 : decode cX1_hasRoom 8 = .ok (.if_icmp .lt 5, 3) := by decide +kernel
theorem dX1_hasRoom_11 : decode cX1_hasRoom 11 = .ok (.iconst 1, 1) := by decide +kernel
theorem dX1_hasRoom_12 : decode cX1_hasRoom 12 = .ok (.ireturn, 1) := by decide +kernel
theorem dX1_hasRoom_13 : decode cX1_hasRoom 13 = .ok (.aload_n 0, 1) := by decide +kernel
theorem dX1_hasRoom_14 : decode cX1_hasRoom 14 = .ok (.getfield 7, 3) := by decide +kernel
theorem dX1_hasRoom_17 : decode cX1_hasRoom 17 = .ok (.iconst 0, 1) := by decide +kernel
theorem dX1_hasRoom_18 : decode cX1_hasRoom 18 = .ok (.lload 4, 2) := by decide +kernel
theorem dX1_hasRoom_20 : decode cX1_hasRoom 20 = .ok (.lastore, 1) := by decide +kernel
theorem dX1_hasRoom_21 : decode cX1_hasRoom 21 = .ok (.aload_n 0, 1) := by decide +kernel
theorem dX1_hasRoom_22 : decode cX1_hasRoom 22 = .ok (.getfield 7, 3) := by decide +kernel
theorem dX1_hasRoom_25 : decode cX1_hasRoom 25 = .ok (.iconst 1, 1) := by decide +kernel
theorem dX1_hasRoom_26 : decode cX1_hasRoom 26 = .ok (.lload 6, 2) := by decide +kernel
theorem dX1_hasRoom_28 : decode cX1_hasRoom 28 = .ok (.lastore, 1) := by decide +kernel
theorem dX1_hasRoom_29 : decode cX1_hasRoom 29 = .ok (.aload_n 0, 1) := by decide +kernel
theorem dX1_hasRoom_30 : decode cX1_hasRoom 30 = .ok (.getfield 13, 3) := by decide +kernel
theorem dX1_hasRoom_33 : decode cX1_hasRoom 33 = .ok (.invokevirtual 25, 3) := by decide +kernel
theorem dX1_hasRoom_36 : decode cX1_hasRoom 36 = .ok (.aload_n 0, 1) := by decide +kernel
theorem dX1_hasRoom_37 : decode cX1_hasRoom 37 = .ok (.getfield 13, 3) := by decide +kernel
theorem dX1_hasRoom_40 : decode cX1_hasRoom 40 = .ok (.aload_n 0, 1) := by decide +kernel
theorem dX1_hasRoom_41 : decode cX1_hasRoom 41 = .ok (.getfield 17, 3) := by decide +kernel
theorem dX1_hasRoom_44 : decode cX1_hasRoom 44 = .ok (.getfield 30, 3) := by decide +kernel
theorem dX1_hasRoom_47 : decode cX1_hasRoom 47 = .ok (.aload_n 0, 1) := by decide +kernel
theorem dX1_hasRoom_48 : decode cX1_hasRoom 48 = .ok (.getfield 17, 3) := by decide +kernel
theorem dX1_hasRoom_51 : decode cX1_hasRoom 51 = .ok (.getfield 35, 3) := by decide +kernel
theorem dX1_hasRoom_54 : decode cX1_hasRoom 54 = .ok (.invokevirtual 39, 3) := by decide +kernel
theorem dX1_hasRoom_57 : decode cX1_hasRoom 57 = .ok (.aload_n 0, 1) := by decide +kernel
theorem dX1_hasRoom_58 : decode cX1_hasRoom 58 = .ok (.getfield 13, 3) := by decide +kernel
theorem dX1_hasRoom_61 : decode cX1_hasRoom 61 = .ok (.aload_n 0, 1) := by decide +kernel
theorem dX1_hasRoom_62 : decode cX1_hasRoom 62 = .ok (.getfield 21, 3) := by decide +kernel
theorem dX1_hasRoom_65 : decode cX1_hasRoom 65 = .ok (.getfield 49, 3) := by decide +kernel
theorem dX1_hasRoom_68 : decode cX1_hasRoom 68 = .ok (.aload_n 0, 1) := by decide +kernel
theorem dX1_hasRoom_69 : decode cX1_hasRoom 69 = .ok (.getfield 21, 3) := by decide +kernel
theorem dX1_hasRoom_72 : decode cX1_hasRoom 72 = .ok (.getfield 54, 3) := by decide +kernel
theorem dX1_hasRoom_75 : decode cX1_hasRoom 75 = .ok (.bipush 11, 2) := by decide +kernel
theorem dX1_hasRoom_77 : decode cX1_hasRoom 77 = .ok (.imul, 1) := by decide +kernel
theorem dX1_hasRoom_78 : decode cX1_hasRoom 78 = .ok (.invokevirtual 39, 3) := by decide +kernel
theorem dX1_hasRoom_81 : decode cX1_hasRoom 81 = .ok (.aload_n 0, 1) := by decide +kernel
theorem dX1_hasRoom_82 : decode cX1_hasRoom 82 = .ok (.getfield 13, 3) := by decide +kernel
theorem dX1_hasRoom_85 : decode cX1_hasRoom 85 = .ok (.aload_n 2, 1) := by decide +kernel
theorem dX1_hasRoom_86 : decode cX1_hasRoom 86 = .ok (.iload_n 3, 1) := by decide +kernel
theorem dX1_hasRoom_87 : decode cX1_hasRoom 87 = .ok (.invokevirtual 39, 3) := by decide +kernel
theorem dX1_hasRoom_90 : decode cX1_hasRoom 90 = .ok (.aload_n 0, 1) := by decide +kernel
theorem dX1_hasRoom_91 : decode cX1_hasRoom 91 = .ok (.getfield 13, 3) := by decide +kernel
theorem dX1_hasRoom_94 : decode cX1_hasRoom 94 = .ok (.aload_n 0, 1) := by decide +kernel
theorem dX1_hasRoom_95 : decode cX1_hasRoom 95 = .ok (.getfield 7, 3) := by decide +kernel
theorem dX1_hasRoom_98 : decode cX1_hasRoom 98 = .ok (.iconst 2, 1) := by decide +kernel
theorem dX1_hasRoom_99 : decode cX1_hasRoom 99 = .ok (.invokevirtual 39, 3) := by decide +kernel
theorem dX1_hasRoom_102 : decode cX1_hasRoom 102 = .ok (.aload_n 0, 1) := by decide +kernel
theorem dX1_hasRoom_103 : decode cX1_hasRoom 103 = .ok (.getfield 13, 3) := by decide +kernel
theorem dX1_hasRoom_106 : decode cX1_hasRoom 106 = .ok (.invokevirtual 57, 3) := by decide +kernel
theorem dX1_hasRoom_109 : decode cX1_hasRoom 109 = .ok (.aload_n 0, 1) := by decide +kernel
theorem dX1_hasRoom_110 : decode cX1_hasRoom 110 = .ok (.getfield 13, 3) := by decide +kernel
theorem dX1_hasRoom_113 : decode cX1_hasRoom 113 = .ok (.getfield 46, 3) := by decide +kernel
theorem dX1_hasRoom_116 : decode cX1_hasRoom 116 = .ok (.iload_n 1, 1) := by decide +kernel
theorem dX1_hasRoom_117 : decode cX1_hasRoom 117 = .ok (.if_icmp .lt 7, 3) := by decide +kernel
theorem dX1_hasRoom_120 : decode cX1_hasRoom 120 = .ok (.iconst 1, 1) := by decide +kernel
theorem dX1_hasRoom_121 : decode cX1_hasRoom 121 = .ok (.goto 4, 3) := by decide +kernel
theorem dX1_hasRoom_124 : decode cX1_hasRoom 124 = .ok (.iconst 0, 1) := by decide +kernel
theorem dX1_hasRoom_125 : decode cX1_hasRoom 125 = .ok (.ireturn, 1) := by decide +kernel
theorem dX2_init_0 : decode cX2_init 0 = .ok (.aload_n 0, 1) := by decide +kernel
theorem dX2_init_1 : decode cX2_init 1 = .ok (.invokespecial 3, 3) := by decide +kernel
theorem dX2_init_4 : decode cX2_init 4 = .ok (.aload_n 0, 1) := by decide +kernel
theorem dX2_init_5 : decode cX2_init 5 = .ok (.bipush 8, 2) := by decide +kernel
theorem dX2_init_7 : decode cX2_init 7 = .ok (.newarray .long, 2) := by decide +kernel
theorem dX2_init_9 : decode cX2_init 9 = .ok (.putfield 9, 3) := by decide +kernel
theorem dX2_init_12 : decode cX2_init 12 = .ok (.aload_n 0, 1) := by decide +kernel
theorem dX2_init_13 : decode cX2_init 13 = .ok (.iconst 0, 1) := by decide +kernel
theorem dX2_init_14 : decode cX2_init 14 = .ok (.putfield 15, 3) := by decide +kernel
theorem dX2_init_17 : decode cX2_init 17 = .ok (.aload_n 0, 1) := by decide +kernel
theorem dX2_init_18 : decode cX2_init 18 = .ok (.iconst 0, 1) := by decide +kernel
theorem dX2_init_19 : decode cX2_init 19 = .ok (.putfield 19, 3) := by decide +kernel
theorem dX2_init_22 : decode cX2_init 22 = .ok (.aload_n 0, 1) := by decide +kernel
theorem dX2_init_23 : decode cX2_init 23 = .ok (.iconst 4, 1) := by decide +kernel
theorem dX2_init_24 : decode cX2_init 24 = .ok (.putfield 22, 3) := by decide +kernel
theorem dX2_init_27 : decode cX2_init 27 = .ok (.aload_n 0, 1) := by decide +kernel
theorem dX2_init_28 : decode cX2_init 28 = .ok (.iconst 0, 1) := by decide +kernel
theorem dX2_init_29 : decode cX2_init 29 = .ok (.putfield 25, 3) := by decide +kernel
theorem dX2_init_32 : decode cX2_init 32 = .ok (.aload_n 0, 1) := by decide +kernel
theorem dX2_init_33 : decode cX2_init 33 = .ok (.ldc2_w 28, 3) := by decide +kernel
theorem dX2_init_36 : decode cX2_init 36 = .ok (.putfield 30, 3) := by decide +kernel
theorem dX2_init_39 : decode cX2_init 39 = .ok (.aload_n 0, 1) := by decide +kernel
theorem dX2_init_40 : decode cX2_init 40 = .ok (.ldc2_w 28, 3) := by decide +kernel
theorem dX2_init_43 : decode cX2_init 43 = .ok (.putfield 34, 3) := by decide +kernel
theorem dX2_init_46 : decode cX2_init 46 = .ok (.aload_n 0, 1) := by decide +kernel
theorem dX2_init_47 : decode cX2_init 47 = .ok (.ldc2_w 28, 3) := by decide +kernel
theorem dX2_init_50 : decode cX2_init 50 = .ok (.putfield 37, 3) := by decide +kernel
theorem dX2_init_53 : decode cX2_init 53 = .ok (.aload_n 0, 1) := by decide +kernel
theorem dX2_init_54 : decode cX2_init 54 = .ok (.ldc2_w 28, 3) := by decide +kernel
theorem dX2_init_57 : decode cX2_init 57 = .ok (.putfield 40, 3) := by decide +kernel
theorem dX2_init_60 : decode cX2_init 60 = .ok (.aload_n 0, 1) := by decide +kernel
theorem dX2_init_61 : decode cX2_init 61 = .ok (.ldc2_w 28, 3) := by decide +kernel
theorem dX2_init_64 : decode cX2_init 64 = .ok (.putfield 43, 3) := by decide +kernel
theorem dX2_init_67 : decode cX2_init 67 = .ok (.aload_n 0, 1) := by decide +kernel
theorem dX2_init_68 : decode cX2_init 68 = .ok (.aload_n 1, 1) := by decide +kernel
theorem dX2_init_69 : decode cX2_init 69 = .ok (.putfield 46, 3) := by decide +kernel
theorem dX2_init_72 : decode cX2_init 72 = .ok (.aload_n 0, 1) := by decide +kernel
theorem dX2_init_73 : decode cX2_init 73 = .ok (.aload_n 2, 1) := by decide +kernel
theorem dX2_init_74 : decode cX2_init 74 = .ok (.putfield 50, 3) := by decide +kernel
theorem dX2_init_77 : decode cX2_init 77 = .ok (.aload_n 0, 1) := by decide +kernel
theorem dX2_init_78 : decode cX2_init 78 = .ok (.aload_n 3, 1) := by decide +kernel
theorem dX2_init_79 : decode cX2_init 79 = .ok (.putfield 54, 3) := by decide +kernel
theorem dX2_init_82 : decode cX2_init 82 = .ok (.aload_n 0, 1) := by decide +kernel
theorem dX2_init_83 : decode cX2_init 83 = .ok (.aload 4, 2) := by decide +kernel
theorem dX2_init_85 : decode cX2_init 85 = .ok (.putfield 58, 3) := by decide +kernel
theorem dX2_init_88 : decode cX2_init 88 = .ok (.aload_n 0, 1) := by decide +kernel
theorem dX2_init_89 : decode cX2_init 89 = .ok (.iload 5, 2) := by decide +kernel
theorem dX2_init_91 : decode cX2_init 91 = .ok (.putfield 62, 3) := by decide +kernel
theorem dX2_init_94 : decode cX2_init 94 = .ok (.return_, 1) := by decide +kernel
theorem dX2_evaluate_0 : decode cX2_evaluate 0 = .ok (.aload_n 0, 1) := by decide +kernel
theorem dX2_evaluate_1 : decode cX2_evaluate 1 = .ok (.iconst 0, 1) := by decide +kernel
theorem dX2_evaluate_2 : decode cX2_evaluate 2 = .ok (.putfield 25, 3) := by decide +kernel
theorem dX2_evaluate_5 : decode cX2_evaluate 5 = .ok (.aload_n 0, 1) := by decide +kernel
theorem dX2_evaluate_6 : decode cX2_evaluate 6 = .ok (.lload_n 1, 1) := by decide +kernel
theorem dX2_evaluate_7 : decode cX2_evaluate 7 = .ok (.ldc2_w 28, 3) := by decide +kernel
theorem dX2_evaluate_10 : decode cX2_evaluate 10 = .ok (.invokevirtual 65, 3) := by decide +kernel
theorem dX2_evaluate_13 : decode cX2_evaluate 13 = .ok (.iconst 2, 1) := by decide +kernel
theorem dX2_evaluate_14 : decode cX2_evaluate 14 = .ok (.aload_n 0, 1) := by decide +kernel
theorem dX2_evaluate_15 : decode cX2_evaluate 15 = .ok (.getfield 62, 3) := by decide +kernel
theorem dX2_evaluate_18 : decode cX2_evaluate 18 = .ok (.imul, 1) := by decide +kernel
theorem dX2_evaluate_19 : decode cX2_evaluate 19 = .ok (.iconst 4, 1) := by decide +kernel
theorem dX2_evaluate_20 : decode cX2_evaluate 20 = .ok (.iadd, 1) := by decide +kernel
theorem dX2_evaluate_21 : decode cX2_evaluate 21 = .ok (.istore_n 3, 1) := by decide +kernel
theorem dX2_evaluate_22 : decode cX2_evaluate 22 = .ok (.iconst 0, 1) := by decide +kernel
theorem dX2_evaluate_23 : decode cX2_evaluate 23 = .ok (.istore 4, 2) := by decide +kernel
theorem dX2_evaluate_25 : decode cX2_evaluate 25 = .ok (.iload 4, 2) := by decide +kernel
theorem dX2_evaluate_27 : decode cX2_evaluate 27 = .ok (.iload_n 3, 1) := by decide +kernel
theorem dX2_evaluate_28 : decode cX2_evaluate 28 = .ok (.if_icmp .ge 143, 3) := by decide +kernel
theorem dX2_evaluate_31 : decode cX2_evaluate 31 = .ok (.aload_n 0, 1) := by decide +kernel
theorem dX2_evaluate_32 : decode cX2_evaluate 32 = .ok (.getfield 22, 3) := by decide +kernel
theorem dX2_evaluate_35 : decode cX2_evaluate 35 = .ok (.iconst 4, 1) := by decide +kernel
theorem dX2_evaluate_36 : decode cX2_evaluate 36 = .ok (.if_icmp .eq 135, 3) := by decide +kernel
theorem dX2_evaluate_39 : decode cX2_evaluate 39 = .ok (.aload_n 0, 1) := by decide +kernel
theorem dX2_evaluate_40 : decode cX2_evaluate 40 = .ok (.getfield 25, 3) := by decide +kernel
theorem dX2_evaluate_43 : decode cX2_evaluate 43 = .ok (.ifCond .ne 128, 3) := by decide +kernel
theorem dX2_evaluate_46 : decode cX2_evaluate 46 = .ok (.aload_n 0, 1) := by decide +kernel
theorem dX2_evaluate_47 : decode cX2_evaluate 47 = .ok (.getfield 22, 3) := by decide +kernel
theorem dX2_evaluate_50 : decode cX2_evaluate 50 = .ok (.iconst 3, 1) := by decide +kernel
theorem dX2_evaluate_51 : decode cX2_evaluate 51 = .ok (.if_icmp .ne 10, 3) := by decide +kernel
theorem dX2_evaluate_54 : decode cX2_evaluate 54 = .ok (.aload_n 0, 1) := by decide +kernel
theorem dX2_evaluate_55 : decode cX2_evaluate 55 = .ok (.invokevirtual 69, 3) := by decide +kernel
theorem dX2_evaluate_58 : decode cX2_evaluate 58 = .ok (.goto 107, 3) := by decide +kernel
theorem dX2_evaluate_61 : decode cX2_evaluate 61 = .ok (.aload_n 0, 1) := by decide +kernel
theorem dX2_evaluate_62 : decode cX2_evaluate 62 = .ok (.getfield 19, 3) := by decide +kernel
theorem dX2_evaluate_65 : decode cX2_evaluate 65 = .ok (.aload_n 0, 1) := by decide +kernel
theorem dX2_evaluate_66 : decode cX2_evaluate 66 = .ok (.getfield 62, 3) := by decide +kernel
theorem dX2_evaluate_69 : decode cX2_evaluate 69 = .ok (.if_icmp .lt 12, 3) := by decide +kernel
theorem dX2_evaluate_72 : decode cX2_evaluate 72 = .ok (.aload_n 0, 1) := by decide +kernel
theorem dX2_evaluate_73 : decode cX2_evaluate 73 = .ok (.bipush 8, 2) := by decide +kernel
theorem dX2_evaluate_75 : decode cX2_evaluate 75 = .ok (.putfield 25, 3) := by decide +kernel
theorem dX2_evaluate_78 : decode cX2_evaluate 78 = .ok (.goto 87, 3) := by decide +kernel
theorem dX2_evaluate_81 : decode cX2_evaluate 81 = .ok (.aload_n 0, 1) := by decide +kernel
theorem dX2_evaluate_82 : decode cX2_evaluate 82 = .ok (.dup, 1) := by decide +kernel
theorem dX2_evaluate_83 : decode cX2_evaluate 83 = .ok (.getfield 19, 3) := by decide +kernel
theorem dX2_evaluate_86 : decode cX2_evaluate 86 = .ok (.iconst 1, 1) := by decide +kernel
theorem dX2_evaluate_87 : decode cX2_evaluate 87 = .ok (.iadd, 1) := by decide +kernel
theorem dX2_evaluate_88 : decode cX2_evaluate 88 = .ok (.putfield 19, 3) := by decide +kernel
theorem dX2_evaluate_91 : decode cX2_evaluate 91 = .ok (.aload_n 0, 1) := by decide +kernel
theorem dX2_evaluate_92 : decode cX2_evaluate 92 = .ok (.getfield 22, 3) := by decide +kernel
theorem dX2_evaluate_95 : decode cX2_evaluate 95 = .ok (.iconst 1, 1) := by decide +kernel
theorem dX2_evaluate_96 : decode cX2_evaluate 96 = .ok (.if_icmp .ne 10, 3) := by decide +kernel
theorem dX2_evaluate_99 : decode cX2_evaluate 99 = .ok (.aload_n 0, 1) := by decide +kernel
theorem dX2_evaluate_100 : decode cX2_evaluate 100 = .ok (.invokevirtual 72, 3) := by decide +kernel
theorem dX2_evaluate_103 : decode cX2_evaluate 103 = .ok (.goto 62, 3) := by decide +kernel
theorem dX2_evaluate_106 : decode cX2_evaluate 106 = .ok (.aload_n 0, 1) := by decide +kernel
theorem dX2_evaluate_107 : decode cX2_evaluate 107 = .ok (.getfield 22, 3) := by decide +kernel
theorem dX2_evaluate_110 : decode cX2_evaluate 110 = .ok (.ifCond .ne 20, 3) := by decide +kernel
theorem dX2_evaluate_113 : decode cX2_evaluate 113 = .ok (.aload_n 0, 1) := by decide +kernel
theorem dX2_evaluate_114 : decode cX2_evaluate 114 = .ok (.getfield 30, 3) := by decide +kernel
theorem dX2_evaluate_117 : decode cX2_evaluate 117 = .ok (.invokestatic 75, 3) := by decide +kernel
theorem dX2_evaluate_120 : decode cX2_evaluate 120 = .ok (.ifCond .eq 10, 3) := by decide +kernel
theorem dX2_evaluate_123 : decode cX2_evaluate 123 = .ok (.aload_n 0, 1) := by decide +kernel
theorem dX2_evaluate_124 : decode cX2_evaluate 124 = .ok (.invokevirtual 81, 3) := by decide +kernel
theorem dX2_evaluate_127 : decode cX2_evaluate 127 = .ok (.goto 38, 3) := by decide +kernel
theorem dX2_evaluate_130 : decode cX2_evaluate 130 = .ok (.aload_n 0, 1) := by decide +kernel
theorem dX2_evaluate_131 : decode cX2_evaluate 131 = .ok (.getfield 22, 3) := by decide +kernel
theorem dX2_evaluate_134 : decode cX2_evaluate 134 = .ok (.ifCond .ne 10, 3) := by decide +kernel
theorem dX2_evaluate_137 : decode cX2_evaluate 137 = .ok (.aload_n 0, 1) := by decide +kernel
theorem dX2_evaluate_138 : decode cX2_evaluate 138 = .ok (.invokevirtual 84, 3) := by decide +kernel
theorem dX2_evaluate_141 : decode cX2_evaluate 141 = .ok (.goto 24, 3) := by decide +kernel
theorem dX2_evaluate_144 : decode cX2_evaluate 144 = .ok (.aload_n 0, 1) := by decide +kernel
theorem dX2_evaluate_145 : decode cX2_evaluate 145 = .ok (.getfield 37, 3) := by decide +kernel
theorem dX2_evaluate_148 : decode cX2_evaluate 148 = .ok (.invokestatic 75, 3) := by decide +kernel
theorem dX2_evaluate_151 : decode cX2_evaluate 151 = .ok (.ifCond .eq 10, 3) := by decide +kernel
theorem dX2_evaluate_154 : decode cX2_evaluate 154 = .ok (.aload_n 0, 1) := by decide +kernel
theorem dX2_evaluate_155 : decode cX2_evaluate 155 = .ok (.invokevirtual 87, 3) := by decide +kernel
theorem dX2_evaluate_158 : decode cX2_evaluate 158 = .ok (.goto 7, 3) := by decide +kernel
theorem dX2_evaluate_161 : decode cX2_evaluate 161 = .ok (.aload_n 0, 1) := by decide +kernel
theorem dX2_evaluate_162 : decode cX2_evaluate 162 = .ok (.invokevirtual 90, 3) := by decide +kernel
theorem dX2_evaluate_165 : decode cX2_evaluate 165 = .ok (.iinc 4 1, 3) := by decide +kernel
theorem dX2_evaluate_168 : decode cX2_evaluate 168 = .ok (.goto (-143), 3) := by decide +kernel
theorem dX2_evaluate_171 : decode cX2_evaluate 171 = .ok (.aload_n 0, 1) := by decide +kernel
theorem dX2_evaluate_172 : decode cX2_evaluate 172 = .ok (.getfield 25, 3) := by decide +kernel
theorem dX2_evaluate_175 : decode cX2_evaluate 175 = .ok (.ireturn, 1) := by decide +kernel
theorem dX2_beginEvaluating_0 : decode cX2_beginEvaluating 0 = .ok (.aload_n 0, 1) := by decide +kernel
theorem dX2_beginEvaluating_1 : decode cX2_beginEvaluating 1 = .ok (.lload_n 1, 1) := by decide +kernel
theorem dX2_beginEvaluating_2 : decode cX2_beginEvaluating 2 = .ok (.putfield 30, 3) := by decide +kernel
theorem dX2_beginEvaluating_5 : decode cX2_beginEvaluating 5 = .ok (.aload_n 0, 1) := by decide +kernel
theorem dX2_beginEvaluating_6 : decode cX2_beginEvaluating 6 = .ok (.lload_n 3, 1) := by decide +kernel
theorem dX2_beginEvaluating_7 : decode cX2_beginEvaluating 7 = .ok (.putfield 40, 3) := by decide +kernel
theorem dX2_beginEvaluating_10 : decode cX2_beginEvaluating 10 = .ok (.aload_n 0, 1) := by decide +kernel
theorem dX2_beginEvaluating_11 : decode cX2_beginEvaluating 11 = .ok (.iconst 0, 1) := by decide +kernel
theorem dX2_beginEvaluating_12 : decode cX2_beginEvaluating 12 = .ok (.putfield 22, 3) := by decide +kernel
theorem dX2_beginEvaluating_15 : decode cX2_beginEvaluating 15 = .ok (.return_, 1) := by decide +kernel
theorem dX2_beginApplying_0 : decode cX2_beginApplying 0 = .ok (.aload_n 0, 1) := by decide +kernel
theorem dX2_beginApplying_1 : decode cX2_beginApplying 1 = .ok (.lload_n 1, 1) := by decide +kernel
theorem dX2_beginApplying_2 : decode cX2_beginApplying 2 = .ok (.putfield 37, 3) := by decide +kernel
theorem dX2_beginApplying_5 : decode cX2_beginApplying 5 = .ok (.aload_n 0, 1) := by decide +kernel
theorem dX2_beginApplying_6 : decode cX2_beginApplying 6 = .ok (.iconst 2, 1) := by decide +kernel
theorem dX2_beginApplying_7 : decode cX2_beginApplying 7 = .ok (.putfield 22, 3) := by decide +kernel
theorem dX2_beginApplying_10 : decode cX2_beginApplying 10 = .ok (.return_, 1) := by decide +kernel
theorem dX2_answer_0 : decode cX2_answer 0 = .ok (.aload_n 0, 1) := by decide +kernel
theorem dX2_answer_1 : decode cX2_answer 1 = .ok (.lload_n 1, 1) := by decide +kernel
theorem dX2_answer_2 : decode cX2_answer 2 = .ok (.putfield 43, 3) := by decide +kernel
theorem dX2_answer_5 : decode cX2_answer 5 = .ok (.aload_n 0, 1) := by decide +kernel
theorem dX2_answer_6 : decode cX2_answer 6 = .ok (.iconst 3, 1) := by decide +kernel
theorem dX2_answer_7 : decode cX2_answer 7 = .ok (.putfield 22, 3) := by decide +kernel
theorem dX2_answer_10 : decode cX2_answer 10 = .ok (.return_, 1) := by decide +kernel
theorem dX2_answerTruth_0 : decode cX2_answerTruth 0 = .ok (.aload_n 0, 1) := by decide +kernel
theorem dX2_answerTruth_1 : decode cX2_answerTruth 1 = .ok (.iload_n 1, 1) := by decide +kernel
theorem dX2_answerTruth_2 : decode cX2_answerTruth 2 = .ok (.ifCond .eq 9, 3) := by decide +kernel
theorem dX2_answerTruth_5 : decode cX2_answerTruth 5 = .ok (.ldc2_w 93, 3) := by decide +kernel
theorem dX2_answerTruth_8 : decode cX2_answerTruth 8 = .ok (.goto 6, 3) := by decide +kernel
theorem dX2_answerTruth_11 : decode cX2_answerTruth 11 = .ok (.ldc2_w 28, 3) := by decide +kernel
theorem dX2_answerTruth_14 : decode cX2_answerTruth 14 = .ok (.invokevirtual 95, 3) := by decide +kernel
theorem dX2_answerTruth_17 : decode cX2_answerTruth 17 = .ok (.return_, 1) := by decide +kernel
theorem dX2_boundTo_0 : decode cX2_boundTo 0 = .ok (.aload_n 0, 1) := by decide +kernel
theorem dX2_boundTo_1 : decode cX2_boundTo 1 = .ok (.getfield 40, 3) := by decide +kernel
theorem dX2_boundTo_4 : decode cX2_boundTo 4 = .ok (.lstore_n 3, 1) := by decide +kernel
theorem dX2_boundTo_5 : decode cX2_boundTo 5 = .ok (.iconst 0, 1) := by decide +kernel
theorem dX2_boundTo_6 : decode cX2_boundTo 6 = .ok (.istore 5, 2) := by decide +kernel
theorem dX2_boundTo_8 : decode cX2_boundTo 8 = .ok (.iload 5, 2) := by decide +kernel
theorem dX2_boundTo_10 : decode cX2_boundTo 10 = .ok (.aload_n 0, 1) := by decide +kernel
theorem dX2_boundTo_11 : decode cX2_boundTo 11 = .ok (.getfield 46, 3) := by decide +kernel
theorem dX2_boundTo_14 : decode cX2_boundTo 14 = .ok (.getfield 99, 3) := by decide +kernel
theorem dX2_boundTo_17 : decode cX2_boundTo 17 = .ok (.arraylength, 1) := by decide +kernel
theorem dX2_boundTo_18 : decode cX2_boundTo 18 = .ok (.if_icmp .ge 59, 3) := by decide +kernel
theorem dX2_boundTo_21 : decode cX2_boundTo 21 = .ok (.lload_n 3, 1) := by decide +kernel
theorem dX2_boundTo_22 : decode cX2_boundTo 22 = .ok (.invokestatic 75, 3) := by decide +kernel
theorem dX2_boundTo_25 : decode cX2_boundTo 25 = .ok (.ifCond .eq 52, 3) := by decide +kernel
theorem dX2_boundTo_28 : decode cX2_boundTo 28 = .ok (.aload_n 0, 1) := by decide +kernel
theorem dX2_boundTo_29 : decode cX2_boundTo 29 = .ok (.getfield 46, 3) := by decide +kernel
theorem dX2_boundTo_32 : decode cX2_boundTo 32 = .ok (.lload_n 3, 1) := by decide +kernel
theorem dX2_boundTo_33 : decode cX2_boundTo 33 = .ok (.invokevirtual 104, 3) := by decide +kernel
theorem dX2_boundTo_36 : decode cX2_boundTo 36 = .ok (.lstore 6, 2) := by decide +kernel
theorem dX2_boundTo_38 : decode cX2_boundTo 38 = .ok (.aload_n 0, 1) := by decide +kernel
theorem dX2_boundTo_39 : decode cX2_boundTo 39 = .ok (.getfield 46, 3) := by decide +kernel
theorem dX2_boundTo_42 : decode cX2_boundTo 42 = .ok (.lload 6, 2) := by decide +kernel
theorem dX2_boundTo_44 : decode cX2_boundTo 44 = .ok (.invokevirtual 104, 3) := by decide +kernel
theorem dX2_boundTo_47 : decode cX2_boundTo 47 = .ok (.lload_n 1, 1) := by decide +kernel
theorem dX2_boundTo_48 : decode cX2_boundTo 48 = .ok (.lcmp, 1) := by decide +kernel
theorem dX2_boundTo_49 : decode cX2_boundTo 49 = .ok (.ifCond .ne 13, 3) := by decide +kernel
theorem dX2_boundTo_52 : decode cX2_boundTo 52 = .ok (.aload_n 0, 1) := by decide +kernel
theorem dX2_boundTo_53 : decode cX2_boundTo 53 = .ok (.getfield 46, 3) := by decide +kernel
theorem dX2_boundTo_56 : decode cX2_boundTo 56 = .ok (.lload 6, 2) := by decide +kernel
theorem dX2_boundTo_58 : decode cX2_boundTo 58 = .ok (.invokevirtual 108, 3) := by decide +kernel
theorem dX2_boundTo_61 : decode cX2_boundTo 61 = .ok (.lreturn, 1) := by decide +kernel
theorem dX2_boundTo_62 : decode cX2_boundTo 62 = .ok (.aload_n 0, 1) := by decide +kernel
theorem dX2_boundTo_63 : decode cX2_boundTo 63 = .ok (.getfield 46, 3) := by decide +kernel
theorem dX2_boundTo_66 : decode cX2_boundTo 66 = .ok (.lload_n 3, 1) := by decide +kernel
theorem dX2_boundTo_67 : decode cX2_boundTo 67 = .ok (.invokevirtual 108, 3) := by decide +kernel
theorem dX2_boundTo_70 : decode cX2_boundTo 70 = .ok (.lstore_n 3, 1) := by decide +kernel
theorem dX2_boundTo_71 : decode cX2_boundTo 71 = .ok (.iinc 5 1, 3) := by decide +kernel
theorem dX2_boundTo_74 : decode cX2_boundTo 74 = .ok (.goto (-66), 3) := by decide +kernel
theorem dX2_boundTo_77 : decode cX2_boundTo 77 = .ok (.aload_n 0, 1) := by decide +kernel
theorem dX2_boundTo_78 : decode cX2_boundTo 78 = .ok (.getfield 50, 3) := by decide +kernel
theorem dX2_boundTo_81 : decode cX2_boundTo 81 = .ok (.lload_n 1, 1) := by decide +kernel
theorem dX2_boundTo_82 : decode cX2_boundTo 82 = .ok (.invokevirtual 111, 3) := by decide +kernel
theorem dX2_boundTo_85 : decode cX2_boundTo 85 = .ok (.lreturn, 1) := by decide +kernel
theorem dX2_evaluateAtom_0 : decode cX2_evaluateAtom 0 = .ok (.aload_n 0, 1) := by decide +kernel
theorem dX2_evaluateAtom_1 : decode cX2_evaluateAtom 1 = .ok (.getfield 30, 3) := by decide +kernel
theorem dX2_evaluateAtom_4 : decode cX2_evaluateAtom 4 = .ok (.invokestatic 116, 3) := by decide +kernel
theorem dX2_evaluateAtom_7 : decode cX2_evaluateAtom 7 = .ok (.ifCond .eq 10, 3) := by decide +kernel
theorem dX2_evaluateAtom_10 : decode cX2_evaluateAtom 10 = .ok (.aload_n 0, 1) := by decide +kernel
theorem dX2_evaluateAtom_11 : decode cX2_evaluateAtom 11 = .ok (.getfield 30, 3) := by decide +kernel
theorem dX2_evaluateAtom_14 : decode cX2_evaluateAtom 14 = .ok (.goto 11, 3) := by decide +kernel
theorem dX2_evaluateAtom_17 : decode cX2_evaluateAtom 17 = .ok (.aload_n 0, 1) := by decide +kernel
theorem dX2_evaluateAtom_18 : decode cX2_evaluateAtom 18 = .ok (.aload_n 0, 1) := by decide +kernel
theorem dX2_evaluateAtom_19 : decode cX2_evaluateAtom 19 = .ok (.getfield 30, 3) := by decide +kernel
theorem dX2_evaluateAtom_22 : decode cX2_evaluateAtom 22 = .ok (.invokevirtual 119, 3) := by decide +kernel
theorem dX2_evaluateAtom_25 : decode cX2_evaluateAtom 25 = .ok (.lstore_n 1, 1) := by decide +kernel
theorem dX2_evaluateAtom_26 : decode cX2_evaluateAtom 26 = .ok (.lload_n 1, 1) := by decide +kernel
theorem dX2_evaluateAtom_27 : decode cX2_evaluateAtom 27 = .ok (.ldc2_w 122, 3) := by decide +kernel
theorem dX2_evaluateAtom_30 : decode cX2_evaluateAtom 30 = .ok (.lcmp, 1) := by decide +kernel
theorem dX2_evaluateAtom_31 : decode cX2_evaluateAtom 31 = .ok (.ifCond .ne 11, 3) := by decide +kernel
theorem dX2_evaluateAtom_34 : decode cX2_evaluateAtom 34 = .ok (.aload_n 0, 1) := by decide +kernel
theorem dX2_evaluateAtom_35 : decode cX2_evaluateAtom 35 = .ok (.iconst 1, 1) := by decide +kernel
theorem dX2_evaluateAtom_36 : decode cX2_evaluateAtom 36 = .ok (.putfield 25, 3) := by decide +kernel
theorem dX2_evaluateAtom_39 : decode cX2_evaluateAtom 39 = .ok (.goto 8, 3) := by decide +kernel
theorem dX2_evaluateAtom_42 : decode cX2_evaluateAtom 42 = .ok (.aload_n 0, 1) := by decide +kernel
theorem dX2_evaluateAtom_43 : decode cX2_evaluateAtom 43 = .ok (.lload_n 1, 1) := by decide +kernel
theorem dX2_evaluateAtom_44 : decode cX2_evaluateAtom 44 = .ok (.invokevirtual 95, 3) := by decide +kernel
theorem dX2_evaluateAtom_47 : decode cX2_evaluateAtom 47 = .ok (.return_, 1) := by decide +kernel
theorem dX2_evaluatePair_0 : decode cX2_evaluatePair 0 = .ok (.aload_n 0, 1) := by decide +kernel
theorem dX2_evaluatePair_1 : decode cX2_evaluatePair 1 = .ok (.getfield 46, 3) := by decide +kernel
theorem dX2_evaluatePair_4 : decode cX2_evaluatePair 4 = .ok (.aload_n 0, 1) := by decide +kernel
theorem dX2_evaluatePair_5 : decode cX2_evaluatePair 5 = .ok (.getfield 30, 3) := by decide +kernel
theorem dX2_evaluatePair_8 : decode cX2_evaluatePair 8 = .ok (.invokevirtual 104, 3) := by decide +kernel
theorem dX2_evaluatePair_11 : decode cX2_evaluatePair 11 = .ok (.lstore_n 1, 1) := by decide +kernel
theorem dX2_evaluatePair_12 : decode cX2_evaluatePair 12 = .ok (.lload_n 1, 1) := by decide +kernel
theorem dX2_evaluatePair_13 : decode cX2_evaluatePair 13 = .ok (.ldc2_w 124, 3) := by decide +kernel
theorem dX2_evaluatePair_16 : decode cX2_evaluatePair 16 = .ok (.lcmp, 1) := by decide +kernel
theorem dX2_evaluatePair_17 : decode cX2_evaluatePair 17 = .ok (.ifCond .ne 10, 3) := by decide +kernel
theorem dX2_evaluatePair_20 : decode cX2_evaluatePair 20 = .ok (.aload_n 0, 1) := by decide +kernel
theorem dX2_evaluatePair_21 : decode cX2_evaluatePair 21 = .ok (.invokevirtual 126, 3) := by decide +kernel
theorem dX2_evaluatePair_24 : decode cX2_evaluatePair 24 = .ok (.goto 64, 3) := by decide +kernel
theorem dX2_evaluatePair_27 : decode cX2_evaluatePair 27 = .ok (.lload_n 1, 1) := by decide +kernel
theorem dX2_evaluatePair_28 : decode cX2_evaluatePair 28 = .ok (.ldc2_w 129, 3) := by decide +kernel
theorem dX2_evaluatePair_31 : decode cX2_evaluatePair 31 = .ok (.lcmp, 1) := by decide +kernel
theorem dX2_evaluatePair_32 : decode cX2_evaluatePair 32 = .ok (.ifCond .ne 25, 3) := by decide +kernel
theorem dX2_evaluatePair_35 : decode cX2_evaluatePair 35 = .ok (.aload_n 0, 1) := by decide +kernel
theorem dX2_evaluatePair_36 : decode cX2_evaluatePair 36 = .ok (.aload_n 0, 1) := by decide +kernel
theorem dX2_evaluatePair_37 : decode cX2_evaluatePair 37 = .ok (.getfield 46, 3) := by decide +kernel
theorem dX2_evaluatePair_40 : decode cX2_evaluatePair 40 = .ok (.aload_n 0, 1) := by decide +kernel
theorem dX2_evaluatePair_41 : decode cX2_evaluatePair 41 = .ok (.getfield 30, 3) := by decide +kernel
theorem dX2_evaluatePair_44 : decode cX2_evaluatePair 44 = .ok (.invokevirtual 108, 3) := by decide +kernel
theorem dX2_evaluatePair_47 : decode cX2_evaluatePair 47 = .ok (.putfield 34, 3) := by decide +kernel
theorem dX2_evaluatePair_50 : decode cX2_evaluatePair 50 = .ok (.aload_n 0, 1) := by decide +kernel
theorem dX2_evaluatePair_51 : decode cX2_evaluatePair 51 = .ok (.invokevirtual 72, 3) := by decide +kernel
theorem dX2_evaluatePair_54 : decode cX2_evaluatePair 54 = .ok (.goto 34, 3) := by decide +kernel
theorem dX2_evaluatePair_57 : decode cX2_evaluatePair 57 = .ok (.lload_n 1, 1) := by decide +kernel
theorem dX2_evaluatePair_58 : decode cX2_evaluatePair 58 = .ok (.ldc2_w 131, 3) := by decide +kernel
theorem dX2_evaluatePair_61 : decode cX2_evaluatePair 61 = .ok (.lcmp, 1) := by decide +kernel
theorem dX2_evaluatePair_62 : decode cX2_evaluatePair 62 = .ok (.ifCond .ne 10, 3) := by decide +kernel
theorem dX2_evaluatePair_65 : decode cX2_evaluatePair 65 = .ok (.aload_n 0, 1) := by decide +kernel
theorem dX2_evaluatePair_66 : decode cX2_evaluatePair 66 = .ok (.invokevirtual 133, 3) := by decide +kernel
theorem dX2_evaluatePair_69 : decode cX2_evaluatePair 69 = .ok (.goto 19, 3) := by decide +kernel
theorem dX2_evaluatePair_72 : decode cX2_evaluatePair 72 = .ok (.aload_n 0, 1) := by decide +kernel
theorem dX2_evaluatePair_73 : decode cX2_evaluatePair 73 = .ok (.lload_n 1, 1) := by decide +kernel
theorem dX2_evaluatePair_74 : decode cX2_evaluatePair 74 = .ok (.aload_n 0, 1) := by decide +kernel
theorem dX2_evaluatePair_75 : decode cX2_evaluatePair 75 = .ok (.getfield 46, 3) := by decide +kernel
theorem dX2_evaluatePair_78 : decode cX2_evaluatePair 78 = .ok (.aload_n 0, 1) := by decide +kernel
theorem dX2_evaluatePair_79 : decode cX2_evaluatePair 79 = .ok (.getfield 30, 3) := by decide +kernel
theorem dX2_evaluatePair_82 : decode cX2_evaluatePair 82 = .ok (.invokevirtual 108, 3) := by decide +kernel
theorem dX2_evaluatePair_85 : decode cX2_evaluatePair 85 = .ok (.invokevirtual 136, 3) := by decide +kernel
theorem dX2_evaluatePair_88 : decode cX2_evaluatePair 88 = .ok (.return_, 1) := by decide +kernel
theorem dX2_evaluateQuote_0 : decode cX2_evaluateQuote 0 = .ok (.aload_n 0, 1) := by decide +kernel
theorem dX2_evaluateQuote_1 : decode cX2_evaluateQuote 1 = .ok (.getfield 46, 3) := by decide +kernel
theorem dX2_evaluateQuote_4 : decode cX2_evaluateQuote 4 = .ok (.aload_n 0, 1) := by decide +kernel
theorem dX2_evaluateQuote_5 : decode cX2_evaluateQuote 5 = .ok (.getfield 30, 3) := by decide +kernel
theorem dX2_evaluateQuote_8 : decode cX2_evaluateQuote 8 = .ok (.iconst 2, 1) := by decide +kernel
theorem dX2_evaluateQuote_9 : decode cX2_evaluateQuote 9 = .ok (.invokevirtual 139, 3) := by decide +kernel
theorem dX2_evaluateQuote_12 : decode cX2_evaluateQuote 12 = .ok (.ifCond .eq 28, 3) := by decide +kernel
theorem dX2_evaluateQuote_15 : decode cX2_evaluateQuote 15 = .ok (.aload_n 0, 1) := by decide +kernel
theorem dX2_evaluateQuote_16 : decode cX2_evaluateQuote 16 = .ok (.aload_n 0, 1) := by decide +kernel
theorem dX2_evaluateQuote_17 : decode cX2_evaluateQuote 17 = .ok (.getfield 46, 3) := by decide +kernel
theorem dX2_evaluateQuote_20 : decode cX2_evaluateQuote 20 = .ok (.aload_n 0, 1) := by decide +kernel
theorem dX2_evaluateQuote_21 : decode cX2_evaluateQuote 21 = .ok (.getfield 46, 3) := by decide +kernel
theorem dX2_evaluateQuote_24 : decode cX2_evaluateQuote 24 = .ok (.aload_n 0, 1) := by decide +kernel
theorem dX2_evaluateQuote_25 : decode cX2_evaluateQuote 25 = .ok (.getfield 30, 3) := by decide +kernel
theorem dX2_evaluateQuote_28 : decode cX2_evaluateQuote 28 = .ok (.invokevirtual 108, 3) := by decide +kernel
theorem dX2_evaluateQuote_31 : decode cX2_evaluateQuote 31 = .ok (.invokevirtual 104, 3) := by decide +kernel
theorem dX2_evaluateQuote_34 : decode cX2_evaluateQuote 34 = .ok (.invokevirtual 95, 3) := by decide +kernel
theorem dX2_evaluateQuote_37 : decode cX2_evaluateQuote 37 = .ok (.goto 8, 3) := by decide +kernel
theorem dX2_evaluateQuote_40 : decode cX2_evaluateQuote 40 = .ok (.aload_n 0, 1) := by decide +kernel
theorem dX2_evaluateQuote_41 : decode cX2_evaluateQuote 41 = .ok (.iconst 3, 1) := by decide +kernel
theorem dX2_evaluateQuote_42 : decode cX2_evaluateQuote 42 = .ok (.putfield 25, 3) := by decide +kernel
theorem dX2_evaluateQuote_45 : decode cX2_evaluateQuote 45 = .ok (.return_, 1) := by decide +kernel
theorem dX2_evaluateDefine_0 : decode cX2_evaluateDefine 0 = .ok (.aload_n 0, 1) := by decide +kernel
theorem dX2_evaluateDefine_1 : decode cX2_evaluateDefine 1 = .ok (.getfield 46, 3) := by decide +kernel
theorem dX2_evaluateDefine_4 : decode cX2_evaluateDefine 4 = .ok (.aload_n 0, 1) := by decide +kernel
theorem dX2_evaluateDefine_5 : decode cX2_evaluateDefine 5 = .ok (.getfield 46, 3) := by decide +kernel
theorem dX2_evaluateDefine_8 : decode cX2_evaluateDefine 8 = .ok (.aload_n 0, 1) := by decide +kernel
theorem dX2_evaluateDefine_9 : decode cX2_evaluateDefine 9 = .ok (.getfield 30, 3) := by decide +kernel
theorem dX2_evaluateDefine_12 : decode cX2_evaluateDefine 12 = .ok (.invokevirtual 108, 3) := by decide +kernel
theorem dX2_evaluateDefine_15 : decode cX2_evaluateDefine 15 = .ok (.invokevirtual 104, 3) := by decide +kernel
theorem dX2_evaluateDefine_18 : decode cX2_evaluateDefine 18 = .ok (.lstore_n 1, 1) := by decide +kernel
theorem dX2_evaluateDefine_19 : decode cX2_evaluateDefine 19 = .ok (.aload_n 0, 1) := by decide +kernel
theorem dX2_evaluateDefine_20 : decode cX2_evaluateDefine 20 = .ok (.getfield 46, 3) := by decide +kernel
theorem dX2_evaluateDefine_23 : decode cX2_evaluateDefine 23 = .ok (.aload_n 0, 1) := by decide +kernel
theorem dX2_evaluateDefine_24 : decode cX2_evaluateDefine 24 = .ok (.getfield 30, 3) := by decide +kernel
theorem dX2_evaluateDefine_27 : decode cX2_evaluateDefine 27 = .ok (.iconst 3, 1) := by decide +kernel
theorem dX2_evaluateDefine_28 : decode cX2_evaluateDefine 28 = .ok (.invokevirtual 139, 3) := by decide +kernel
theorem dX2_evaluateDefine_31 : decode cX2_evaluateDefine 31 = .ok (.ifCond .eq 17, 3) := by decide +kernel
theorem dX2_evaluateDefine_34 : decode cX2_evaluateDefine 34 = .ok (.lload_n 1, 1) := by decide +kernel
theorem dX2_evaluateDefine_35 : decode cX2_evaluateDefine 35 = .ok (.invokestatic 143, 3) := by decide +kernel
theorem dX2_evaluateDefine_38 : decode cX2_evaluateDefine 38 = .ok (.ifCond .eq 10, 3) := by decide +kernel
theorem dX2_evaluateDefine_41 : decode cX2_evaluateDefine 41 = .ok (.lload_n 1, 1) := by decide +kernel
theorem dX2_evaluateDefine_42 : decode cX2_evaluateDefine 42 = .ok (.invokestatic 116, 3) := by decide +kernel
theorem dX2_evaluateDefine_45 : decode cX2_evaluateDefine 45 = .ok (.ifCond .eq 9, 3) := by decide +kernel
theorem dX2_evaluateDefine_48 : decode cX2_evaluateDefine 48 = .ok (.aload_n 0, 1) := by decide +kernel
theorem dX2_evaluateDefine_49 : decode cX2_evaluateDefine 49 = .ok (.iconst 3, 1) := by decide +kernel
theorem dX2_evaluateDefine_50 : decode cX2_evaluateDefine 50 = .ok (.putfield 25, 3) := by decide +kernel
theorem dX2_evaluateDefine_53 : decode cX2_evaluateDefine 53 = .ok (.return_, 1) := by decide +kernel
theorem dX2_evaluateDefine_54 : decode cX2_evaluateDefine 54 = .ok (.aload_n 0, 1) := by decide +kernel
theorem dX2_evaluateDefine_55 : decode cX2_evaluateDefine 55 = .ok (.getfield 50, 3) := by decide +kernel
theorem dX2_evaluateDefine_58 : decode cX2_evaluateDefine 58 = .ok (.lload_n 1, 1) := by decide +kernel
theorem dX2_evaluateDefine_59 : decode cX2_evaluateDefine 59 = .ok (.aload_n 0, 1) := by decide +kernel
theorem dX2_evaluateDefine_60 : decode cX2_evaluateDefine 60 = .ok (.getfield 46, 3) := by decide +kernel
theorem dX2_evaluateDefine_63 : decode cX2_evaluateDefine 63 = .ok (.aload_n 0, 1) := by decide +kernel
theorem dX2_evaluateDefine_64 : decode cX2_evaluateDefine 64 = .ok (.getfield 46, 3) := by decide +kernel
theorem dX2_evaluateDefine_67 : decode cX2_evaluateDefine 67 = .ok (.aload_n 0, 1) := by decide +kernel
theorem dX2_evaluateDefine_68 : decode cX2_evaluateDefine 68 = .ok (.getfield 46, 3) := by decide +kernel
theorem dX2_evaluateDefine_71 : decode cX2_evaluateDefine 71 = .ok (.aload_n 0, 1) := by decide +kernel
theorem dX2_evaluateDefine_72 : decode cX2_evaluateDefine 72 = .ok (.getfield 30, 3) := by decide +kernel
theorem dX2_evaluateDefine_75 : decode cX2_evaluateDefine 75 = .ok (.invokevirtual 108, 3) := by decide +kernel
theorem dX2_evaluateDefine_78 : decode cX2_evaluateDefine 78 = .ok (.invokevirtual 108, 3) := by decide +kernel
theorem dX2_evaluateDefine_81 : decode cX2_evaluateDefine 81 = .ok (.invokevirtual 104, 3) := by decide +kernel
theorem dX2_evaluateDefine_84 : decode cX2_evaluateDefine 84 = .ok (.invokevirtual 146, 3) := by decide +kernel
theorem dX2_evaluateDefine_87 : decode cX2_evaluateDefine 87 = .ok (.aload_n 0, 1) := by decide +kernel
theorem dX2_evaluateDefine_88 : decode cX2_evaluateDefine 88 = .ok (.lload_n 1, 1) := by decide +kernel
theorem dX2_evaluateDefine_89 : decode cX2_evaluateDefine 89 = .ok (.invokevirtual 95, 3) := by decide +kernel
theorem dX2_evaluateDefine_92 : decode cX2_evaluateDefine 92 = .ok (.return_, 1) := by decide +kernel
theorem dX2_choose_0 : decode cX2_choose 0 = .ok (.aload_n 0, 1) := by decide +kernel
theorem dX2_choose_1 : decode cX2_choose 1 = .ok (.getfield 46, 3) := by decide +kernel
theorem dX2_choose_4 : decode cX2_choose 4 = .ok (.aload_n 0, 1) := by decide +kernel
theorem dX2_choose_5 : decode cX2_choose 5 = .ok (.getfield 34, 3) := by decide +kernel
theorem dX2_choose_8 : decode cX2_choose 8 = .ok (.invokevirtual 104, 3) := by decide +kernel
theorem dX2_choose_11 : decode cX2_choose 11 = .ok (.lstore_n 1, 1) := by decide +kernel
theorem dX2_choose_12 : decode cX2_choose 12 = .ok (.aload_n 0, 1) := by decide +kernel
theorem dX2_choose_13 : decode cX2_choose 13 = .ok (.getfield 34, 3) := by decide +kernel
theorem dX2_choose_16 : decode cX2_choose 16 = .ok (.ldc2_w 28, 3) := by decide +kernel
theorem dX2_choose_19 : decode cX2_choose 19 = .ok (.lcmp, 1) := by decide +kernel
theorem dX2_choose_20 : decode cX2_choose 20 = .ok (.ifCond .ne 11, 3) := by decide +kernel
theorem dX2_choose_23 : decode cX2_choose 23 = .ok (.aload_n 0, 1) := by decide +kernel
theorem dX2_choose_24 : decode cX2_choose 24 = .ok (.iconst 5, 1) := by decide +kernel
theorem dX2_choose_25 : decode cX2_choose 25 = .ok (.putfield 25, 3) := by decide +kernel
theorem dX2_choose_28 : decode cX2_choose 28 = .ok (.goto 80, 3) := by decide +kernel
theorem dX2_choose_31 : decode cX2_choose 31 = .ok (.aload_n 0, 1) := by decide +kernel
theorem dX2_choose_32 : decode cX2_choose 32 = .ok (.getfield 34, 3) := by decide +kernel
theorem dX2_choose_35 : decode cX2_choose 35 = .ok (.invokestatic 75, 3) := by decide +kernel
theorem dX2_choose_38 : decode cX2_choose 38 = .ok (.ifCond .eq 15, 3) := by decide +kernel
theorem dX2_choose_41 : decode cX2_choose 41 = .ok (.aload_n 0, 1) := by decide +kernel
theorem dX2_choose_42 : decode cX2_choose 42 = .ok (.getfield 46, 3) := by decide +kernel
theorem dX2_choose_45 : decode cX2_choose 45 = .ok (.lload_n 1, 1) := by decide +kernel
theorem dX2_choose_46 : decode cX2_choose 46 = .ok (.iconst 2, 1) := by decide +kernel
theorem dX2_choose_47 : decode cX2_choose 47 = .ok (.invokevirtual 139, 3) := by decide +kernel
theorem dX2_choose_50 : decode cX2_choose 50 = .ok (.ifCond .ne 11, 3) := by decide +kernel
theorem dX2_choose_53 : decode cX2_choose 53 = .ok (.aload_n 0, 1) := by decide +kernel
theorem dX2_choose_54 : decode cX2_choose 54 = .ok (.iconst 3, 1) := by decide +kernel
theorem dX2_choose_55 : decode cX2_choose 55 = .ok (.putfield 25, 3) := by decide +kernel
theorem dX2_choose_58 : decode cX2_choose 58 = .ok (.goto 50, 3) := by decide +kernel
theorem dX2_choose_61 : decode cX2_choose 61 = .ok (.aload_n 0, 1) := by decide +kernel
theorem dX2_choose_62 : decode cX2_choose 62 = .ok (.getfield 54, 3) := by decide +kernel
theorem dX2_choose_65 : decode cX2_choose 65 = .ok (.iconst 1, 1) := by decide +kernel
theorem dX2_choose_66 : decode cX2_choose 66 = .ok (.ldc2_w 28, 3) := by decide +kernel
theorem dX2_choose_69 : decode cX2_choose 69 = .ok (.aload_n 0, 1) := by decide +kernel
theorem dX2_choose_70 : decode cX2_choose 70 = .ok (.getfield 34, 3) := by decide +kernel
theorem dX2_choose_73 : decode cX2_choose 73 = .ok (.aload_n 0, 1) := by decide +kernel
theorem dX2_choose_74 : decode cX2_choose 74 = .ok (.getfield 40, 3) := by decide +kernel
theorem dX2_choose_77 : decode cX2_choose 77 = .ok (.invokevirtual 151, 3) := by decide +kernel
theorem dX2_choose_80 : decode cX2_choose 80 = .ok (.ifCond .ne 12, 3) := by decide +kernel
theorem dX2_choose_83 : decode cX2_choose 83 = .ok (.aload_n 0, 1) := by decide +kernel
theorem dX2_choose_84 : decode cX2_choose 84 = .ok (.bipush 7, 2) := by decide +kernel
theorem dX2_choose_86 : decode cX2_choose 86 = .ok (.putfield 25, 3) := by decide +kernel
theorem dX2_choose_89 : decode cX2_choose 89 = .ok (.goto 19, 3) := by decide +kernel
theorem dX2_choose_92 : decode cX2_choose 92 = .ok (.aload_n 0, 1) := by decide +kernel
theorem dX2_choose_93 : decode cX2_choose 93 = .ok (.aload_n 0, 1) := by decide +kernel
theorem dX2_choose_94 : decode cX2_choose 94 = .ok (.getfield 46, 3) := by decide +kernel
theorem dX2_choose_97 : decode cX2_choose 97 = .ok (.lload_n 1, 1) := by decide +kernel
theorem dX2_choose_98 : decode cX2_choose 98 = .ok (.invokevirtual 104, 3) := by decide +kernel
theorem dX2_choose_101 : decode cX2_choose 101 = .ok (.aload_n 0, 1) := by decide +kernel
theorem dX2_choose_102 : decode cX2_choose 102 = .ok (.getfield 40, 3) := by decide +kernel
theorem dX2_choose_105 : decode cX2_choose 105 = .ok (.invokevirtual 65, 3) := by decide +kernel
theorem dX2_choose_108 : decode cX2_choose 108 = .ok (.return_, 1) := by decide +kernel
theorem dX2_evaluateCall_0 : decode cX2_evaluateCall 0 = .ok (.lload_n 3, 1) := by decide +kernel
theorem dX2_evaluateCall_1 : decode cX2_evaluateCall 1 = .ok (.ldc2_w 28, 3) := by decide +kernel
theorem dX2_evaluateCall_4 : decode cX2_evaluateCall 4 = .ok (.lcmp, 1) := by decide +kernel
theorem dX2_evaluateCall_5 : decode cX2_evaluateCall 5 = .ok (.ifCond .ne 16, 3) := by decide +kernel
theorem dX2_evaluateCall_8 : decode cX2_evaluateCall 8 = .ok (.aload_n 0, 1) := by decide +kernel
theorem dX2_evaluateCall_9 : decode cX2_evaluateCall 9 = .ok (.iconst 0, 1) := by decide +kernel
theorem dX2_evaluateCall_10 : decode cX2_evaluateCall 10 = .ok (.putfield 15, 3) := by decide +kernel
theorem dX2_evaluateCall_13 : decode cX2_evaluateCall 13 = .ok (.aload_n 0, 1) := by decide +kernel
theorem dX2_evaluateCall_14 : decode cX2_evaluateCall 14 = .ok (.lload_n 1, 1) := by decide +kernel
theorem dX2_evaluateCall_15 : decode cX2_evaluateCall 15 = .ok (.invokevirtual 155, 3) := by decide +kernel
theorem dX2_evaluateCall_18 : decode cX2_evaluateCall 18 = .ok (.goto 67, 3) := by decide +kernel
theorem dX2_evaluateCall_21 : decode cX2_evaluateCall 21 = .ok (.lload_n 3, 1) := by decide +kernel
theorem dX2_evaluateCall_22 : decode cX2_evaluateCall 22 = .ok (.invokestatic 75, 3) := by decide +kernel
theorem dX2_evaluateCall_25 : decode cX2_evaluateCall 25 = .ok (.ifCond .ne 11, 3) := by decide +kernel
theorem dX2_evaluateCall_28 : decode cX2_evaluateCall 28 = .ok (.aload_n 0, 1) := by decide +kernel
theorem dX2_evaluateCall_29 : decode cX2_evaluateCall 29 = .ok (.iconst 3, 1) := by decide +kernel
theorem dX2_evaluateCall_30 : decode cX2_evaluateCall 30 = .ok (.putfield 25, 3) := by decide +kernel
theorem dX2_evaluateCall_33 : decode cX2_evaluateCall 33 = .ok (.goto 52, 3) := by decide +kernel
theorem dX2_evaluateCall_36 : decode cX2_evaluateCall 36 = .ok (.aload_n 0, 1) := by decide +kernel
theorem dX2_evaluateCall_37 : decode cX2_evaluateCall 37 = .ok (.getfield 54, 3) := by decide +kernel
theorem dX2_evaluateCall_40 : decode cX2_evaluateCall 40 = .ok (.iconst 0, 1) := by decide +kernel
theorem dX2_evaluateCall_41 : decode cX2_evaluateCall 41 = .ok (.lload_n 1, 1) := by decide +kernel
theorem dX2_evaluateCall_42 : decode cX2_evaluateCall 42 = .ok (.aload_n 0, 1) := by decide +kernel
theorem dX2_evaluateCall_43 : decode cX2_evaluateCall 43 = .ok (.getfield 46, 3) := by decide +kernel
theorem dX2_evaluateCall_46 : decode cX2_evaluateCall 46 = .ok (.lload_n 3, 1) := by decide +kernel
theorem dX2_evaluateCall_47 : decode cX2_evaluateCall 47 = .ok (.invokevirtual 108, 3) := by decide +kernel
theorem dX2_evaluateCall_50 : decode cX2_evaluateCall 50 = .ok (.aload_n 0, 1) := by decide +kernel
theorem dX2_evaluateCall_51 : decode cX2_evaluateCall 51 = .ok (.getfield 40, 3) := by decide +kernel
theorem dX2_evaluateCall_54 : decode cX2_evaluateCall 54 = .ok (.invokevirtual 151, 3) := by decide +kernel
theorem dX2_evaluateCall_57 : decode cX2_evaluateCall 57 = .ok (.ifCond .ne 12, 3) := by decide +kernel
theorem dX2_evaluateCall_60 : decode cX2_evaluateCall 60 = .ok (.aload_n 0, 1) := by decide +kernel
theorem dX2_evaluateCall_61 : decode cX2_evaluateCall 61 = .ok (.bipush 7, 2) := by decide +kernel
theorem dX2_evaluateCall_63 : decode cX2_evaluateCall 63 = .ok (.putfield 25, 3) := by decide +kernel
theorem dX2_evaluateCall_66 : decode cX2_evaluateCall 66 = .ok (.goto 19, 3) := by decide +kernel
theorem dX2_evaluateCall_69 : decode cX2_evaluateCall 69 = .ok (.aload_n 0, 1) := by decide +kernel
theorem dX2_evaluateCall_70 : decode cX2_evaluateCall 70 = .ok (.aload_n 0, 1) := by decide +kernel
theorem dX2_evaluateCall_71 : decode cX2_evaluateCall 71 = .ok (.getfield 46, 3) := by decide +kernel
theorem dX2_evaluateCall_74 : decode cX2_evaluateCall 74 = .ok (.lload_n 3, 1) := by decide +kernel
theorem dX2_evaluateCall_75 : decode cX2_evaluateCall 75 = .ok (.invokevirtual 104, 3) := by decide +kernel
theorem dX2_evaluateCall_78 : decode cX2_evaluateCall 78 = .ok (.aload_n 0, 1) := by decide +kernel
theorem dX2_evaluateCall_79 : decode cX2_evaluateCall 79 = .ok (.getfield 40, 3) := by decide +kernel
theorem dX2_evaluateCall_82 : decode cX2_evaluateCall 82 = .ok (.invokevirtual 65, 3) := by decide +kernel
theorem dX2_evaluateCall_85 : decode cX2_evaluateCall 85 = .ok (.return_, 1) := by decide +kernel
theorem dX2_handBack_0 : decode cX2_handBack 0 = .ok (.aload_n 0, 1) := by decide +kernel
theorem dX2_handBack_1 : decode cX2_handBack 1 = .ok (.getfield 54, 3) := by decide +kernel
theorem dX2_handBack_4 : decode cX2_handBack 4 = .ok (.getfield 158, 3) := by decide +kernel
theorem dX2_handBack_7 : decode cX2_handBack 7 = .ok (.ifCond .ne 9, 3) := by decide +kernel
theorem dX2_handBack_10 : decode cX2_handBack 10 = .ok (.aload_n 0, 1) := by decide +kernel
theorem dX2_handBack_11 : decode cX2_handBack 11 = .ok (.iconst 4, 1) := by decide +kernel
theorem dX2_handBack_12 : decode cX2_handBack 12 = .ok (.putfield 22, 3) := by decide +kernel
theorem dX2_handBack_15 : decode cX2_handBack 15 = .ok (.return_, 1) := by decide +kernel
theorem dX2_handBack_16 : decode cX2_handBack 16 = .ok (.aload_n 0, 1) := by decide +kernel
theorem dX2_handBack_17 : decode cX2_handBack 17 = .ok (.aload_n 0, 1) := by decide +kernel
theorem dX2_handBack_18 : decode cX2_handBack 18 = .ok (.getfield 54, 3) := by decide +kernel
theorem dX2_handBack_21 : decode cX2_handBack 21 = .ok (.iconst 2, 1) := by decide +kernel
theorem dX2_handBack_22 : decode cX2_handBack 22 = .ok (.invokevirtual 161, 3) := by decide +kernel
theorem dX2_handBack_25 : decode cX2_handBack 25 = .ok (.putfield 40, 3) := by decide +kernel
theorem dX2_handBack_28 : decode cX2_handBack 28 = .ok (.aload_n 0, 1) := by decide +kernel
theorem dX2_handBack_29 : decode cX2_handBack 29 = .ok (.getfield 54, 3) := by decide +kernel
theorem dX2_handBack_32 : decode cX2_handBack 32 = .ok (.invokevirtual 165, 3) := by decide +kernel
theorem dX2_handBack_35 : decode cX2_handBack 35 = .ok (.lookupswitch 39 #[(0, 25), (1, 32)], 25) := by decide +kernel
theorem dX2_handBack_60 : decode cX2_handBack 60 = .ok (.aload_n 0, 1) := by decide +kernel
theorem dX2_handBack_61 : decode cX2_handBack 61 = .ok (.invokevirtual 169, 3) := by decide +kernel
theorem dX2_handBack_64 : decode cX2_handBack 64 = .ok (.goto 40, 3) := by decide +kernel
theorem dX2_handBack_67 : decode cX2_handBack 67 = .ok (.aload_n 0, 1) := by decide +kernel
theorem dX2_handBack_68 : decode cX2_handBack 68 = .ok (.invokevirtual 172, 3) := by decide +kernel
theorem dX2_handBack_71 : decode cX2_handBack 71 = .ok (.goto 33, 3) := by decide +kernel
theorem dX2_handBack_74 : decode cX2_handBack 74 = .ok (.aload_n 0, 1) := by decide +kernel
theorem dX2_handBack_75 : decode cX2_handBack 75 = .ok (.aload_n 0, 1) := by decide +kernel
theorem dX2_handBack_76 : decode cX2_handBack 76 = .ok (.getfield 54, 3) := by decide +kernel
theorem dX2_handBack_79 : decode cX2_handBack 79 = .ok (.aload_n 0, 1) := by decide +kernel
theorem dX2_handBack_80 : decode cX2_handBack 80 = .ok (.getfield 9, 3) := by decide +kernel
theorem dX2_handBack_83 : decode cX2_handBack 83 = .ok (.invokevirtual 175, 3) := by decide +kernel
theorem dX2_handBack_86 : decode cX2_handBack 86 = .ok (.putfield 15, 3) := by decide +kernel
theorem dX2_handBack_89 : decode cX2_handBack 89 = .ok (.aload_n 0, 1) := by decide +kernel
theorem dX2_handBack_90 : decode cX2_handBack 90 = .ok (.getfield 54, 3) := by decide +kernel
theorem dX2_handBack_93 : decode cX2_handBack 93 = .ok (.invokevirtual 179, 3) := by decide +kernel
theorem dX2_handBack_96 : decode cX2_handBack 96 = .ok (.aload_n 0, 1) := by decide +kernel
theorem dX2_handBack_97 : decode cX2_handBack 97 = .ok (.aload_n 0, 1) := by decide +kernel
theorem dX2_handBack_98 : decode cX2_handBack 98 = .ok (.getfield 43, 3) := by decide +kernel
theorem dX2_handBack_101 : decode cX2_handBack 101 = .ok (.invokevirtual 155, 3) := by decide +kernel
theorem dX2_handBack_104 : decode cX2_handBack 104 = .ok (.return_, 1) := by decide +kernel
theorem dX2_goOnWithCall_0 : decode cX2_goOnWithCall 0 = .ok (.aload_n 0, 1) := by decide +kernel
theorem dX2_goOnWithCall_1 : decode cX2_goOnWithCall 1 = .ok (.getfield 54, 3) := by decide +kernel
theorem dX2_goOnWithCall_4 : decode cX2_goOnWithCall 4 = .ok (.aload_n 0, 1) := by decide +kernel
theorem dX2_goOnWithCall_5 : decode cX2_goOnWithCall 5 = .ok (.getfield 43, 3) := by decide +kernel
theorem dX2_goOnWithCall_8 : decode cX2_goOnWithCall 8 = .ok (.invokevirtual 182, 3) := by decide +kernel
theorem dX2_goOnWithCall_11 : decode cX2_goOnWithCall 11 = .ok (.aload_n 0, 1) := by decide +kernel
theorem dX2_goOnWithCall_12 : decode cX2_goOnWithCall 12 = .ok (.getfield 54, 3) := by decide +kernel
theorem dX2_goOnWithCall_15 : decode cX2_goOnWithCall 15 = .ok (.iconst 1, 1) := by decide +kernel
theorem dX2_goOnWithCall_16 : decode cX2_goOnWithCall 16 = .ok (.invokevirtual 161, 3) := by decide +kernel
theorem dX2_goOnWithCall_19 : decode cX2_goOnWithCall 19 = .ok (.lstore_n 1, 1) := by decide +kernel
theorem dX2_goOnWithCall_20 : decode cX2_goOnWithCall 20 = .ok (.lload_n 1, 1) := by decide +kernel
theorem dX2_goOnWithCall_21 : decode cX2_goOnWithCall 21 = .ok (.ldc2_w 28, 3) := by decide +kernel
theorem dX2_goOnWithCall_24 : decode cX2_goOnWithCall 24 = .ok (.lcmp, 1) := by decide +kernel
theorem dX2_goOnWithCall_25 : decode cX2_goOnWithCall 25 = .ok (.ifCond .ne 40, 3) := by decide +kernel
theorem dX2_goOnWithCall_28 : decode cX2_goOnWithCall 28 = .ok (.aload_n 0, 1) := by decide +kernel
theorem dX2_goOnWithCall_29 : decode cX2_goOnWithCall 29 = .ok (.aload_n 0, 1) := by decide +kernel
theorem dX2_goOnWithCall_30 : decode cX2_goOnWithCall 30 = .ok (.getfield 54, 3) := by decide +kernel
theorem dX2_goOnWithCall_33 : decode cX2_goOnWithCall 33 = .ok (.aload_n 0, 1) := by decide +kernel
theorem dX2_goOnWithCall_34 : decode cX2_goOnWithCall 34 = .ok (.getfield 9, 3) := by decide +kernel
theorem dX2_goOnWithCall_37 : decode cX2_goOnWithCall 37 = .ok (.invokevirtual 175, 3) := by decide +kernel
theorem dX2_goOnWithCall_40 : decode cX2_goOnWithCall 40 = .ok (.putfield 15, 3) := by decide +kernel
theorem dX2_goOnWithCall_43 : decode cX2_goOnWithCall 43 = .ok (.aload_n 0, 1) := by decide +kernel
theorem dX2_goOnWithCall_44 : decode cX2_goOnWithCall 44 = .ok (.aload_n 0, 1) := by decide +kernel
theorem dX2_goOnWithCall_45 : decode cX2_goOnWithCall 45 = .ok (.getfield 54, 3) := by decide +kernel
theorem dX2_goOnWithCall_48 : decode cX2_goOnWithCall 48 = .ok (.iconst 0, 1) := by decide +kernel
theorem dX2_goOnWithCall_49 : decode cX2_goOnWithCall 49 = .ok (.invokevirtual 161, 3) := by decide +kernel
theorem dX2_goOnWithCall_52 : decode cX2_goOnWithCall 52 = .ok (.invokevirtual 155, 3) := by decide +kernel
theorem dX2_goOnWithCall_55 : decode cX2_goOnWithCall 55 = .ok (.aload_n 0, 1) := by decide +kernel
theorem dX2_goOnWithCall_56 : decode cX2_goOnWithCall 56 = .ok (.getfield 54, 3) := by decide +kernel
theorem dX2_goOnWithCall_59 : decode cX2_goOnWithCall 59 = .ok (.invokevirtual 179, 3) := by decide +kernel
theorem dX2_goOnWithCall_62 : decode cX2_goOnWithCall 62 = .ok (.goto 61, 3) := by decide +kernel
theorem dX2_goOnWithCall_65 : decode cX2_goOnWithCall 65 = .ok (.lload_n 1, 1) := by decide +kernel
theorem dX2_goOnWithCall_66 : decode cX2_goOnWithCall 66 = .ok (.invokestatic 75, 3) := by decide +kernel
theorem dX2_goOnWithCall_69 : decode cX2_goOnWithCall 69 = .ok (.ifCond .eq 15, 3) := by decide +kernel
theorem dX2_goOnWithCall_72 : decode cX2_goOnWithCall 72 = .ok (.aload_n 0, 1) := by decide +kernel
theorem dX2_goOnWithCall_73 : decode cX2_goOnWithCall 73 = .ok (.getfield 54, 3) := by decide +kernel
theorem dX2_goOnWithCall_76 : decode cX2_goOnWithCall 76 = .ok (.invokevirtual 185, 3) := by decide +kernel
theorem dX2_goOnWithCall_79 : decode cX2_goOnWithCall 79 = .ok (.bipush 8, 2) := by decide +kernel
theorem dX2_goOnWithCall_81 : decode cX2_goOnWithCall 81 = .ok (.if_icmp .lt 11, 3) := by decide +kernel
theorem dX2_goOnWithCall_84 : decode cX2_goOnWithCall 84 = .ok (.aload_n 0, 1) := by decide +kernel
theorem dX2_goOnWithCall_85 : decode cX2_goOnWithCall 85 = .ok (.iconst 3, 1) := by decide +kernel
theorem dX2_goOnWithCall_86 : decode cX2_goOnWithCall 86 = .ok (.putfield 25, 3) := by decide +kernel
theorem dX2_goOnWithCall_89 : decode cX2_goOnWithCall 89 = .ok (.goto 34, 3) := by decide +kernel
theorem dX2_goOnWithCall_92 : decode cX2_goOnWithCall 92 = .ok (.aload_n 0, 1) := by decide +kernel
theorem dX2_goOnWithCall_93 : decode cX2_goOnWithCall 93 = .ok (.getfield 54, 3) := by decide +kernel
theorem dX2_goOnWithCall_96 : decode cX2_goOnWithCall 96 = .ok (.aload_n 0, 1) := by decide +kernel
theorem dX2_goOnWithCall_97 : decode cX2_goOnWithCall 97 = .ok (.getfield 46, 3) := by decide +kernel
theorem dX2_goOnWithCall_100 : decode cX2_goOnWithCall 100 = .ok (.lload_n 1, 1) := by decide +kernel
theorem dX2_goOnWithCall_101 : decode cX2_goOnWithCall 101 = .ok (.invokevirtual 108, 3) := by decide +kernel
theorem dX2_goOnWithCall_104 : decode cX2_goOnWithCall 104 = .ok (.invokevirtual 188, 3) := by decide +kernel
theorem dX2_goOnWithCall_107 : decode cX2_goOnWithCall 107 = .ok (.aload_n 0, 1) := by decide +kernel
theorem dX2_goOnWithCall_108 : decode cX2_goOnWithCall 108 = .ok (.aload_n 0, 1) := by decide +kernel
theorem dX2_goOnWithCall_109 : decode cX2_goOnWithCall 109 = .ok (.getfield 46, 3) := by decide +kernel
theorem dX2_goOnWithCall_112 : decode cX2_goOnWithCall 112 = .ok (.lload_n 1, 1) := by decide +kernel
theorem dX2_goOnWithCall_113 : decode cX2_goOnWithCall 113 = .ok (.invokevirtual 104, 3) := by decide +kernel
theorem dX2_goOnWithCall_116 : decode cX2_goOnWithCall 116 = .ok (.aload_n 0, 1) := by decide +kernel
theorem dX2_goOnWithCall_117 : decode cX2_goOnWithCall 117 = .ok (.getfield 40, 3) := by decide +kernel
theorem dX2_goOnWithCall_120 : decode cX2_goOnWithCall 120 = .ok (.invokevirtual 65, 3) := by decide +kernel
theorem dX2_goOnWithCall_123 : decode cX2_goOnWithCall 123 = .ok (.return_, 1) := by decide +kernel
theorem dX2_goOnWithChoice_0 : decode cX2_goOnWithChoice 0 = .ok (.aload_n 0, 1) := by decide +kernel
theorem dX2_goOnWithChoice_1 : decode cX2_goOnWithChoice 1 = .ok (.getfield 54, 3) := by decide +kernel
theorem dX2_goOnWithChoice_4 : decode cX2_goOnWithChoice 4 = .ok (.iconst 1, 1) := by decide +kernel
theorem dX2_goOnWithChoice_5 : decode cX2_goOnWithChoice 5 = .ok (.invokevirtual 161, 3) := by decide +kernel
theorem dX2_goOnWithChoice_8 : decode cX2_goOnWithChoice 8 = .ok (.lstore_n 1, 1) := by decide +kernel
theorem dX2_goOnWithChoice_9 : decode cX2_goOnWithChoice 9 = .ok (.aload_n 0, 1) := by decide +kernel
theorem dX2_goOnWithChoice_10 : decode cX2_goOnWithChoice 10 = .ok (.getfield 54, 3) := by decide +kernel
theorem dX2_goOnWithChoice_13 : decode cX2_goOnWithChoice 13 = .ok (.invokevirtual 179, 3) := by decide +kernel
theorem dX2_goOnWithChoice_16 : decode cX2_goOnWithChoice 16 = .ok (.aload_n 0, 1) := by decide +kernel
theorem dX2_goOnWithChoice_17 : decode cX2_goOnWithChoice 17 = .ok (.getfield 43, 3) := by decide +kernel
theorem dX2_goOnWithChoice_20 : decode cX2_goOnWithChoice 20 = .ok (.ldc2_w 28, 3) := by decide +kernel
theorem dX2_goOnWithChoice_23 : decode cX2_goOnWithChoice 23 = .ok (.lcmp, 1) := by decide +kernel
theorem dX2_goOnWithChoice_24 : decode cX2_goOnWithChoice 24 = .ok (.ifCond .ne 23, 3) := by decide +kernel
theorem dX2_goOnWithChoice_27 : decode cX2_goOnWithChoice 27 = .ok (.aload_n 0, 1) := by decide +kernel
theorem dX2_goOnWithChoice_28 : decode cX2_goOnWithChoice 28 = .ok (.aload_n 0, 1) := by decide +kernel
theorem dX2_goOnWithChoice_29 : decode cX2_goOnWithChoice 29 = .ok (.getfield 46, 3) := by decide +kernel
theorem dX2_goOnWithChoice_32 : decode cX2_goOnWithChoice 32 = .ok (.lload_n 1, 1) := by decide +kernel
theorem dX2_goOnWithChoice_33 : decode cX2_goOnWithChoice 33 = .ok (.invokevirtual 108, 3) := by decide +kernel
theorem dX2_goOnWithChoice_36 : decode cX2_goOnWithChoice 36 = .ok (.putfield 34, 3) := by decide +kernel
theorem dX2_goOnWithChoice_39 : decode cX2_goOnWithChoice 39 = .ok (.aload_n 0, 1) := by decide +kernel
theorem dX2_goOnWithChoice_40 : decode cX2_goOnWithChoice 40 = .ok (.iconst 1, 1) := by decide +kernel
theorem dX2_goOnWithChoice_41 : decode cX2_goOnWithChoice 41 = .ok (.putfield 22, 3) := by decide +kernel
theorem dX2_goOnWithChoice_44 : decode cX2_goOnWithChoice 44 = .ok (.goto 33, 3) := by decide +kernel
theorem dX2_goOnWithChoice_47 : decode cX2_goOnWithChoice 47 = .ok (.aload_n 0, 1) := by decide +kernel
theorem dX2_goOnWithChoice_48 : decode cX2_goOnWithChoice 48 = .ok (.aload_n 0, 1) := by decide +kernel
theorem dX2_goOnWithChoice_49 : decode cX2_goOnWithChoice 49 = .ok (.getfield 46, 3) := by decide +kernel
theorem dX2_goOnWithChoice_52 : decode cX2_goOnWithChoice 52 = .ok (.aload_n 0, 1) := by decide +kernel
theorem dX2_goOnWithChoice_53 : decode cX2_goOnWithChoice 53 = .ok (.getfield 46, 3) := by decide +kernel
theorem dX2_goOnWithChoice_56 : decode cX2_goOnWithChoice 56 = .ok (.aload_n 0, 1) := by decide +kernel
theorem dX2_goOnWithChoice_57 : decode cX2_goOnWithChoice 57 = .ok (.getfield 46, 3) := by decide +kernel
theorem dX2_goOnWithChoice_60 : decode cX2_goOnWithChoice 60 = .ok (.lload_n 1, 1) := by decide +kernel
theorem dX2_goOnWithChoice_61 : decode cX2_goOnWithChoice 61 = .ok (.invokevirtual 104, 3) := by decide +kernel
theorem dX2_goOnWithChoice_64 : decode cX2_goOnWithChoice 64 = .ok (.invokevirtual 108, 3) := by decide +kernel
theorem dX2_goOnWithChoice_67 : decode cX2_goOnWithChoice 67 = .ok (.invokevirtual 104, 3) := by decide +kernel
theorem dX2_goOnWithChoice_70 : decode cX2_goOnWithChoice 70 = .ok (.aload_n 0, 1) := by decide +kernel
theorem dX2_goOnWithChoice_71 : decode cX2_goOnWithChoice 71 = .ok (.getfield 40, 3) := by decide +kernel
theorem dX2_goOnWithChoice_74 : decode cX2_goOnWithChoice 74 = .ok (.invokevirtual 65, 3) := by decide +kernel
theorem dX2_goOnWithChoice_77 : decode cX2_goOnWithChoice 77 = .ok (.return_, 1) := by decide +kernel
theorem dX2_applyPair_0 : decode cX2_applyPair 0 = .ok (.aload_n 0, 1) := by decide +kernel
theorem dX2_applyPair_1 : decode cX2_applyPair 1 = .ok (.getfield 46, 3) := by decide +kernel
theorem dX2_applyPair_4 : decode cX2_applyPair 4 = .ok (.aload_n 0, 1) := by decide +kernel
theorem dX2_applyPair_5 : decode cX2_applyPair 5 = .ok (.getfield 37, 3) := by decide +kernel
theorem dX2_applyPair_8 : decode cX2_applyPair 8 = .ok (.invokevirtual 104, 3) := by decide +kernel
theorem dX2_applyPair_11 : decode cX2_applyPair 11 = .ok (.lstore_n 1, 1) := by decide +kernel
theorem dX2_applyPair_12 : decode cX2_applyPair 12 = .ok (.lload_n 1, 1) := by decide +kernel
theorem dX2_applyPair_13 : decode cX2_applyPair 13 = .ok (.ldc2_w 191, 3) := by decide +kernel
theorem dX2_applyPair_16 : decode cX2_applyPair 16 = .ok (.lcmp, 1) := by decide +kernel
theorem dX2_applyPair_17 : decode cX2_applyPair 17 = .ok (.ifCond .ne 10, 3) := by decide +kernel
theorem dX2_applyPair_20 : decode cX2_applyPair 20 = .ok (.aload_n 0, 1) := by decide +kernel
theorem dX2_applyPair_21 : decode cX2_applyPair 21 = .ok (.invokevirtual 193, 3) := by decide +kernel
theorem dX2_applyPair_24 : decode cX2_applyPair 24 = .ok (.goto 75, 3) := by decide +kernel
theorem dX2_applyPair_27 : decode cX2_applyPair 27 = .ok (.lload_n 1, 1) := by decide +kernel
theorem dX2_applyPair_28 : decode cX2_applyPair 28 = .ok (.ldc2_w 196, 3) := by decide +kernel
theorem dX2_applyPair_31 : decode cX2_applyPair 31 = .ok (.lcmp, 1) := by decide +kernel
theorem dX2_applyPair_32 : decode cX2_applyPair 32 = .ok (.ifCond .ne 10, 3) := by decide +kernel
theorem dX2_applyPair_35 : decode cX2_applyPair 35 = .ok (.aload_n 0, 1) := by decide +kernel
theorem dX2_applyPair_36 : decode cX2_applyPair 36 = .ok (.invokevirtual 198, 3) := by decide +kernel
theorem dX2_applyPair_39 : decode cX2_applyPair 39 = .ok (.goto 60, 3) := by decide +kernel
theorem dX2_applyPair_42 : decode cX2_applyPair 42 = .ok (.aload_n 0, 1) := by decide +kernel
theorem dX2_applyPair_43 : decode cX2_applyPair 43 = .ok (.getfield 54, 3) := by decide +kernel
theorem dX2_applyPair_46 : decode cX2_applyPair 46 = .ok (.iconst 2, 1) := by decide +kernel
theorem dX2_applyPair_47 : decode cX2_applyPair 47 = .ok (.ldc2_w 28, 3) := by decide +kernel
theorem dX2_applyPair_50 : decode cX2_applyPair 50 = .ok (.ldc2_w 28, 3) := by decide +kernel
theorem dX2_applyPair_53 : decode cX2_applyPair 53 = .ok (.aload_n 0, 1) := by decide +kernel
theorem dX2_applyPair_54 : decode cX2_applyPair 54 = .ok (.getfield 40, 3) := by decide +kernel
theorem dX2_applyPair_57 : decode cX2_applyPair 57 = .ok (.invokevirtual 151, 3) := by decide +kernel
theorem dX2_applyPair_60 : decode cX2_applyPair 60 = .ok (.ifCond .ne 12, 3) := by decide +kernel
theorem dX2_applyPair_63 : decode cX2_applyPair 63 = .ok (.aload_n 0, 1) := by decide +kernel
theorem dX2_applyPair_64 : decode cX2_applyPair 64 = .ok (.bipush 7, 2) := by decide +kernel
theorem dX2_applyPair_66 : decode cX2_applyPair 66 = .ok (.putfield 25, 3) := by decide +kernel
theorem dX2_applyPair_69 : decode cX2_applyPair 69 = .ok (.goto 30, 3) := by decide +kernel
theorem dX2_applyPair_72 : decode cX2_applyPair 72 = .ok (.aload_n 0, 1) := by decide +kernel
theorem dX2_applyPair_73 : decode cX2_applyPair 73 = .ok (.getfield 54, 3) := by decide +kernel
theorem dX2_applyPair_76 : decode cX2_applyPair 76 = .ok (.aload_n 0, 1) := by decide +kernel
theorem dX2_applyPair_77 : decode cX2_applyPair 77 = .ok (.getfield 9, 3) := by decide +kernel
theorem dX2_applyPair_80 : decode cX2_applyPair 80 = .ok (.aload_n 0, 1) := by decide +kernel
theorem dX2_applyPair_81 : decode cX2_applyPair 81 = .ok (.getfield 15, 3) := by decide +kernel
theorem dX2_applyPair_84 : decode cX2_applyPair 84 = .ok (.invokevirtual 201, 3) := by decide +kernel
theorem dX2_applyPair_87 : decode cX2_applyPair 87 = .ok (.aload_n 0, 1) := by decide +kernel
theorem dX2_applyPair_88 : decode cX2_applyPair 88 = .ok (.aload_n 0, 1) := by decide +kernel
theorem dX2_applyPair_89 : decode cX2_applyPair 89 = .ok (.getfield 37, 3) := by decide +kernel
theorem dX2_applyPair_92 : decode cX2_applyPair 92 = .ok (.aload_n 0, 1) := by decide +kernel
theorem dX2_applyPair_93 : decode cX2_applyPair 93 = .ok (.getfield 40, 3) := by decide +kernel
theorem dX2_applyPair_96 : decode cX2_applyPair 96 = .ok (.invokevirtual 65, 3) := by decide +kernel
theorem dX2_applyPair_99 : decode cX2_applyPair 99 = .ok (.return_, 1) := by decide +kernel
theorem dX2_applyAtom_0 : decode cX2_applyAtom 0 = .ok (.aload_n 0, 1) := by decide +kernel
theorem dX2_applyAtom_1 : decode cX2_applyAtom 1 = .ok (.getfield 37, 3) := by decide +kernel
theorem dX2_applyAtom_4 : decode cX2_applyAtom 4 = .ok (.invokestatic 116, 3) := by decide +kernel
theorem dX2_applyAtom_7 : decode cX2_applyAtom 7 = .ok (.ifCond .eq 9, 3) := by decide +kernel
theorem dX2_applyAtom_10 : decode cX2_applyAtom 10 = .ok (.aload_n 0, 1) := by decide +kernel
theorem dX2_applyAtom_11 : decode cX2_applyAtom 11 = .ok (.iconst 4, 1) := by decide +kernel
theorem dX2_applyAtom_12 : decode cX2_applyAtom 12 = .ok (.putfield 25, 3) := by decide +kernel
theorem dX2_applyAtom_15 : decode cX2_applyAtom 15 = .ok (.return_, 1) := by decide +kernel
theorem dX2_applyAtom_16 : decode cX2_applyAtom 16 = .ok (.aload_n 0, 1) := by decide +kernel
theorem dX2_applyAtom_17 : decode cX2_applyAtom 17 = .ok (.getfield 37, 3) := by decide +kernel
theorem dX2_applyAtom_20 : decode cX2_applyAtom 20 = .ok (.ldc2_w 28, 3) := by decide +kernel
theorem dX2_applyAtom_23 : decode cX2_applyAtom 23 = .ok (.lsub, 1) := by decide +kernel
theorem dX2_applyAtom_24 : decode cX2_applyAtom 24 = .ok (.lstore_n 1, 1) := by decide +kernel
theorem dX2_applyAtom_25 : decode cX2_applyAtom 25 = .ok (.lload_n 1, 1) := by decide +kernel
theorem dX2_applyAtom_26 : decode cX2_applyAtom 26 = .ok (.ldc2_w 205, 3) := by decide +kernel
theorem dX2_applyAtom_29 : decode cX2_applyAtom 29 = .ok (.lcmp, 1) := by decide +kernel
theorem dX2_applyAtom_30 : decode cX2_applyAtom 30 = .ok (.ifCond .lt 18, 3) := by decide +kernel
theorem dX2_applyAtom_33 : decode cX2_applyAtom 33 = .ok (.lload_n 1, 1) := by decide +kernel
theorem dX2_applyAtom_34 : decode cX2_applyAtom 34 = .ok (.ldc2_w 207, 3) := by decide +kernel
theorem dX2_applyAtom_37 : decode cX2_applyAtom 37 = .ok (.lcmp, 1) := by decide +kernel
theorem dX2_applyAtom_38 : decode cX2_applyAtom 38 = .ok (.ifCond .gt 10, 3) := by decide +kernel
theorem dX2_applyAtom_41 : decode cX2_applyAtom 41 = .ok (.aload_n 0, 1) := by decide +kernel
theorem dX2_applyAtom_42 : decode cX2_applyAtom 42 = .ok (.lload_n 1, 1) := by decide +kernel
theorem dX2_applyAtom_43 : decode cX2_applyAtom 43 = .ok (.l2i, 1) := by decide +kernel
theorem dX2_applyAtom_44 : decode cX2_applyAtom 44 = .ok (.invokevirtual 209, 3) := by decide +kernel
theorem dX2_applyAtom_47 : decode cX2_applyAtom 47 = .ok (.return_, 1) := by decide +kernel
theorem dX2_applyAtom_48 : decode cX2_applyAtom 48 = .ok (.aload_n 0, 1) := by decide +kernel
theorem dX2_applyAtom_49 : decode cX2_applyAtom 49 = .ok (.aload_n 0, 1) := by decide +kernel
theorem dX2_applyAtom_50 : decode cX2_applyAtom 50 = .ok (.getfield 37, 3) := by decide +kernel
theorem dX2_applyAtom_53 : decode cX2_applyAtom 53 = .ok (.invokevirtual 119, 3) := by decide +kernel
theorem dX2_applyAtom_56 : decode cX2_applyAtom 56 = .ok (.lstore_n 3, 1) := by decide +kernel
theorem dX2_applyAtom_57 : decode cX2_applyAtom 57 = .ok (.lload_n 3, 1) := by decide +kernel
theorem dX2_applyAtom_58 : decode cX2_applyAtom 58 = .ok (.ldc2_w 122, 3) := by decide +kernel
theorem dX2_applyAtom_61 : decode cX2_applyAtom 61 = .ok (.lcmp, 1) := by decide +kernel
theorem dX2_applyAtom_62 : decode cX2_applyAtom 62 = .ok (.ifCond .ne 11, 3) := by decide +kernel
theorem dX2_applyAtom_65 : decode cX2_applyAtom 65 = .ok (.aload_n 0, 1) := by decide +kernel
theorem dX2_applyAtom_66 : decode cX2_applyAtom 66 = .ok (.iconst 1, 1) := by decide +kernel
theorem dX2_applyAtom_67 : decode cX2_applyAtom 67 = .ok (.putfield 25, 3) := by decide +kernel
theorem dX2_applyAtom_70 : decode cX2_applyAtom 70 = .ok (.goto 8, 3) := by decide +kernel
theorem dX2_applyAtom_73 : decode cX2_applyAtom 73 = .ok (.aload_n 0, 1) := by decide +kernel
theorem dX2_applyAtom_74 : decode cX2_applyAtom 74 = .ok (.lload_n 3, 1) := by decide +kernel
theorem dX2_applyAtom_75 : decode cX2_applyAtom 75 = .ok (.invokevirtual 155, 3) := by decide +kernel
theorem dX2_applyAtom_78 : decode cX2_applyAtom 78 = .ok (.return_, 1) := by decide +kernel
theorem dX2_applyLambda_0 : decode cX2_applyLambda 0 = .ok (.aload_n 0, 1) := by decide +kernel
theorem dX2_applyLambda_1 : decode cX2_applyLambda 1 = .ok (.getfield 46, 3) := by decide +kernel
theorem dX2_applyLambda_4 : decode cX2_applyLambda 4 = .ok (.aload_n 0, 1) := by decide +kernel
theorem dX2_applyLambda_5 : decode cX2_applyLambda 5 = .ok (.getfield 46, 3) := by decide +kernel
theorem dX2_applyLambda_8 : decode cX2_applyLambda 8 = .ok (.aload_n 0, 1) := by decide +kernel
theorem dX2_applyLambda_9 : decode cX2_applyLambda 9 = .ok (.getfield 37, 3) := by decide +kernel
theorem dX2_applyLambda_12 : decode cX2_applyLambda 12 = .ok (.invokevirtual 108, 3) := by decide +kernel
theorem dX2_applyLambda_15 : decode cX2_applyLambda 15 = .ok (.invokevirtual 104, 3) := by decide +kernel
theorem dX2_applyLambda_18 : decode cX2_applyLambda 18 = .ok (.lstore_n 1, 1) := by decide +kernel
theorem dX2_applyLambda_19 : decode cX2_applyLambda 19 = .ok (.aload_n 0, 1) := by decide +kernel
theorem dX2_applyLambda_20 : decode cX2_applyLambda 20 = .ok (.getfield 46, 3) := by decide +kernel
theorem dX2_applyLambda_23 : decode cX2_applyLambda 23 = .ok (.aload_n 0, 1) := by decide +kernel
theorem dX2_applyLambda_24 : decode cX2_applyLambda 24 = .ok (.getfield 37, 3) := by decide +kernel
theorem dX2_applyLambda_27 : decode cX2_applyLambda 27 = .ok (.iconst 3, 1) := by decide +kernel
theorem dX2_applyLambda_28 : decode cX2_applyLambda 28 = .ok (.invokevirtual 139, 3) := by decide +kernel
theorem dX2_applyLambda_31 : decode cX2_applyLambda 31 = .ok (.ifCond .eq 18, 3) := by decide +kernel
theorem dX2_applyLambda_34 : decode cX2_applyLambda 34 = .ok (.aload_n 0, 1) := by decide +kernel
theorem dX2_applyLambda_35 : decode cX2_applyLambda 35 = .ok (.getfield 46, 3) := by decide +kernel
theorem dX2_applyLambda_38 : decode cX2_applyLambda 38 = .ok (.lload_n 1, 1) := by decide +kernel
theorem dX2_applyLambda_39 : decode cX2_applyLambda 39 = .ok (.aload_n 0, 1) := by decide +kernel
theorem dX2_applyLambda_40 : decode cX2_applyLambda 40 = .ok (.getfield 15, 3) := by decide +kernel
theorem dX2_applyLambda_43 : decode cX2_applyLambda 43 = .ok (.invokevirtual 213, 3) := by decide +kernel
theorem dX2_applyLambda_46 : decode cX2_applyLambda 46 = .ok (.ifCond .ne 11, 3) := by decide +kernel
theorem dX2_applyLambda_49 : decode cX2_applyLambda 49 = .ok (.aload_n 0, 1) := by decide +kernel
theorem dX2_applyLambda_50 : decode cX2_applyLambda 50 = .ok (.iconst 3, 1) := by decide +kernel
theorem dX2_applyLambda_51 : decode cX2_applyLambda 51 = .ok (.putfield 25, 3) := by decide +kernel
theorem dX2_applyLambda_54 : decode cX2_applyLambda 54 = .ok (.goto 80, 3) := by decide +kernel
theorem dX2_applyLambda_57 : decode cX2_applyLambda 57 = .ok (.aload_n 0, 1) := by decide +kernel
theorem dX2_applyLambda_58 : decode cX2_applyLambda 58 = .ok (.getfield 58, 3) := by decide +kernel
theorem dX2_applyLambda_61 : decode cX2_applyLambda 61 = .ok (.iconst 2, 1) := by decide +kernel
theorem dX2_applyLambda_62 : decode cX2_applyLambda 62 = .ok (.aload_n 0, 1) := by decide +kernel
theorem dX2_applyLambda_63 : decode cX2_applyLambda 63 = .ok (.getfield 15, 3) := by decide +kernel
theorem dX2_applyLambda_66 : decode cX2_applyLambda 66 = .ok (.imul, 1) := by decide +kernel
theorem dX2_applyLambda_67 : decode cX2_applyLambda 67 = .ok (.aload_n 0, 1) := by decide +kernel
theorem dX2_applyLambda_68 : decode cX2_applyLambda 68 = .ok (.getfield 9, 3) := by decide +kernel
theorem dX2_applyLambda_71 : decode cX2_applyLambda 71 = .ok (.aload_n 0, 1) := by decide +kernel
theorem dX2_applyLambda_72 : decode cX2_applyLambda 72 = .ok (.getfield 15, 3) := by decide +kernel
theorem dX2_applyLambda_75 : decode cX2_applyLambda 75 = .ok (.aload_n 0, 1) := by decide +kernel
theorem dX2_applyLambda_76 : decode cX2_applyLambda 76 = .ok (.getfield 37, 3) := by decide +kernel
theorem dX2_applyLambda_79 : decode cX2_applyLambda 79 = .ok (.aload_n 0, 1) := by decide +kernel
theorem dX2_applyLambda_80 : decode cX2_applyLambda 80 = .ok (.getfield 40, 3) := by decide +kernel
theorem dX2_applyLambda_83 : decode cX2_applyLambda 83 = .ok (.invokevirtual 216, 3) := by decide +kernel
theorem dX2_applyLambda_86 : decode cX2_applyLambda 86 = .ok (.ifCond .ne 12, 3) := by decide +kernel
theorem dX2_applyLambda_89 : decode cX2_applyLambda 89 = .ok (.aload_n 0, 1) := by decide +kernel
theorem dX2_applyLambda_90 : decode cX2_applyLambda 90 = .ok (.bipush 6, 2) := by decide +kernel
theorem dX2_applyLambda_92 : decode cX2_applyLambda 92 = .ok (.putfield 25, 3) := by decide +kernel
theorem dX2_applyLambda_95 : decode cX2_applyLambda 95 = .ok (.goto 39, 3) := by decide +kernel
theorem dX2_applyLambda_98 : decode cX2_applyLambda 98 = .ok (.aload_n 0, 1) := by decide +kernel
theorem dX2_applyLambda_99 : decode cX2_applyLambda 99 = .ok (.getfield 46, 3) := by decide +kernel
theorem dX2_applyLambda_102 : decode cX2_applyLambda 102 = .ok (.aload_n 0, 1) := by decide +kernel
theorem dX2_applyLambda_103 : decode cX2_applyLambda 103 = .ok (.getfield 46, 3) := by decide +kernel
theorem dX2_applyLambda_106 : decode cX2_applyLambda 106 = .ok (.aload_n 0, 1) := by decide +kernel
theorem dX2_applyLambda_107 : decode cX2_applyLambda 107 = .ok (.getfield 46, 3) := by decide +kernel
theorem dX2_applyLambda_110 : decode cX2_applyLambda 110 = .ok (.aload_n 0, 1) := by decide +kernel
theorem dX2_applyLambda_111 : decode cX2_applyLambda 111 = .ok (.getfield 37, 3) := by decide +kernel
theorem dX2_applyLambda_114 : decode cX2_applyLambda 114 = .ok (.invokevirtual 108, 3) := by decide +kernel
theorem dX2_applyLambda_117 : decode cX2_applyLambda 117 = .ok (.invokevirtual 108, 3) := by decide +kernel
theorem dX2_applyLambda_120 : decode cX2_applyLambda 120 = .ok (.invokevirtual 104, 3) := by decide +kernel
theorem dX2_applyLambda_123 : decode cX2_applyLambda 123 = .ok (.lstore_n 3, 1) := by decide +kernel
theorem dX2_applyLambda_124 : decode cX2_applyLambda 124 = .ok (.aload_n 0, 1) := by decide +kernel
theorem dX2_applyLambda_125 : decode cX2_applyLambda 125 = .ok (.lload_n 3, 1) := by decide +kernel
theorem dX2_applyLambda_126 : decode cX2_applyLambda 126 = .ok (.aload_n 0, 1) := by decide +kernel
theorem dX2_applyLambda_127 : decode cX2_applyLambda 127 = .ok (.lload_n 1, 1) := by decide +kernel
theorem dX2_applyLambda_128 : decode cX2_applyLambda 128 = .ok (.invokevirtual 222, 3) := by decide +kernel
theorem dX2_applyLambda_131 : decode cX2_applyLambda 131 = .ok (.invokevirtual 65, 3) := by decide +kernel
theorem dX2_applyLambda_134 : decode cX2_applyLambda 134 = .ok (.return_, 1) := by decide +kernel
theorem dX2_bindAll_0 : decode cX2_bindAll 0 = .ok (.aload_n 0, 1) := by decide +kernel
theorem dX2_bindAll_1 : decode cX2_bindAll 1 = .ok (.getfield 40, 3) := by decide +kernel
theorem dX2_bindAll_4 : decode cX2_bindAll 4 = .ok (.lstore_n 3, 1) := by decide +kernel
theorem dX2_bindAll_5 : decode cX2_bindAll 5 = .ok (.ldc2_w 28, 3) := by decide +kernel
theorem dX2_bindAll_8 : decode cX2_bindAll 8 = .ok (.lstore 5, 2) := by decide +kernel
theorem dX2_bindAll_10 : decode cX2_bindAll 10 = .ok (.lload_n 1, 1) := by decide +kernel
theorem dX2_bindAll_11 : decode cX2_bindAll 11 = .ok (.lstore 7, 2) := by decide +kernel
theorem dX2_bindAll_13 : decode cX2_bindAll 13 = .ok (.iconst 0, 1) := by decide +kernel
theorem dX2_bindAll_14 : decode cX2_bindAll 14 = .ok (.istore 9, 2) := by decide +kernel
theorem dX2_bindAll_16 : decode cX2_bindAll 16 = .ok (.iload 9, 2) := by decide +kernel
theorem dX2_bindAll_18 : decode cX2_bindAll 18 = .ok (.aload_n 0, 1) := by decide +kernel
theorem dX2_bindAll_19 : decode cX2_bindAll 19 = .ok (.getfield 15, 3) := by decide +kernel
theorem dX2_bindAll_22 : decode cX2_bindAll 22 = .ok (.if_icmp .ge 82, 3) := by decide +kernel
theorem dX2_bindAll_25 : decode cX2_bindAll 25 = .ok (.aload_n 0, 1) := by decide +kernel
theorem dX2_bindAll_26 : decode cX2_bindAll 26 = .ok (.getfield 46, 3) := by decide +kernel
theorem dX2_bindAll_29 : decode cX2_bindAll 29 = .ok (.aload_n 0, 1) := by decide +kernel
theorem dX2_bindAll_30 : decode cX2_bindAll 30 = .ok (.getfield 46, 3) := by decide +kernel
theorem dX2_bindAll_33 : decode cX2_bindAll 33 = .ok (.aload_n 0, 1) := by decide +kernel
theorem dX2_bindAll_34 : decode cX2_bindAll 34 = .ok (.getfield 46, 3) := by decide +kernel
theorem dX2_bindAll_37 : decode cX2_bindAll 37 = .ok (.lload 7, 2) := by decide +kernel
theorem dX2_bindAll_39 : decode cX2_bindAll 39 = .ok (.invokevirtual 104, 3) := by decide +kernel
theorem dX2_bindAll_42 : decode cX2_bindAll 42 = .ok (.aload_n 0, 1) := by decide +kernel
theorem dX2_bindAll_43 : decode cX2_bindAll 43 = .ok (.getfield 9, 3) := by decide +kernel
theorem dX2_bindAll_46 : decode cX2_bindAll 46 = .ok (.iload 9, 2) := by decide +kernel
theorem dX2_bindAll_48 : decode cX2_bindAll 48 = .ok (.laload, 1) := by decide +kernel
theorem dX2_bindAll_49 : decode cX2_bindAll 49 = .ok (.invokevirtual 225, 3) := by decide +kernel
theorem dX2_bindAll_52 : decode cX2_bindAll 52 = .ok (.aload_n 0, 1) := by decide +kernel
theorem dX2_bindAll_53 : decode cX2_bindAll 53 = .ok (.getfield 40, 3) := by decide +kernel
theorem dX2_bindAll_56 : decode cX2_bindAll 56 = .ok (.invokevirtual 225, 3) := by decide +kernel
theorem dX2_bindAll_59 : decode cX2_bindAll 59 = .ok (.lstore 10, 2) := by decide +kernel
theorem dX2_bindAll_61 : decode cX2_bindAll 61 = .ok (.iload 9, 2) := by decide +kernel
theorem dX2_bindAll_63 : decode cX2_bindAll 63 = .ok (.ifCond .ne 9, 3) := by decide +kernel
theorem dX2_bindAll_66 : decode cX2_bindAll 66 = .ok (.lload 10, 2) := by decide +kernel
theorem dX2_bindAll_68 : decode cX2_bindAll 68 = .ok (.lstore_n 3, 1) := by decide +kernel
theorem dX2_bindAll_69 : decode cX2_bindAll 69 = .ok (.goto 14, 3) := by decide +kernel
theorem dX2_bindAll_72 : decode cX2_bindAll 72 = .ok (.aload_n 0, 1) := by decide +kernel
theorem dX2_bindAll_73 : decode cX2_bindAll 73 = .ok (.getfield 46, 3) := by decide +kernel
theorem dX2_bindAll_76 : decode cX2_bindAll 76 = .ok (.lload 5, 2) := by decide +kernel
theorem dX2_bindAll_78 : decode cX2_bindAll 78 = .ok (.lload 10, 2) := by decide +kernel
theorem dX2_bindAll_80 : decode cX2_bindAll 80 = .ok (.invokevirtual 229, 3) := by decide +kernel
theorem dX2_bindAll_83 : decode cX2_bindAll 83 = .ok (.lload 10, 2) := by decide +kernel
theorem dX2_bindAll_85 : decode cX2_bindAll 85 = .ok (.lstore 5, 2) := by decide +kernel
theorem dX2_bindAll_87 : decode cX2_bindAll 87 = .ok (.aload_n 0, 1) := by decide +kernel
theorem dX2_bindAll_88 : decode cX2_bindAll 88 = .ok (.getfield 46, 3) := by decide +kernel
theorem dX2_bindAll_91 : decode cX2_bindAll 91 = .ok (.lload 7, 2) := by decide +kernel
theorem dX2_bindAll_93 : decode cX2_bindAll 93 = .ok (.invokevirtual 108, 3) := by decide +kernel
theorem dX2_bindAll_96 : decode cX2_bindAll 96 = .ok (.lstore 7, 2) := by decide +kernel
theorem dX2_bindAll_98 : decode cX2_bindAll 98 = .ok (.iinc 9 1, 3) := by decide +kernel
theorem dX2_bindAll_101 : decode cX2_bindAll 101 = .ok (.goto (-85), 3) := by decide +kernel
theorem dX2_bindAll_104 : decode cX2_bindAll 104 = .ok (.lload_n 3, 1) := by decide +kernel
theorem dX2_bindAll_105 : decode cX2_bindAll 105 = .ok (.lreturn, 1) := by decide +kernel
theorem dX2_applyLabel_0 : decode cX2_applyLabel 0 = .ok (.aload_n 0, 1) := by decide +kernel
theorem dX2_applyLabel_1 : decode cX2_applyLabel 1 = .ok (.getfield 46, 3) := by decide +kernel
theorem dX2_applyLabel_4 : decode cX2_applyLabel 4 = .ok (.aload_n 0, 1) := by decide +kernel
theorem dX2_applyLabel_5 : decode cX2_applyLabel 5 = .ok (.getfield 46, 3) := by decide +kernel
theorem dX2_applyLabel_8 : decode cX2_applyLabel 8 = .ok (.aload_n 0, 1) := by decide +kernel
theorem dX2_applyLabel_9 : decode cX2_applyLabel 9 = .ok (.getfield 37, 3) := by decide +kernel
theorem dX2_applyLabel_12 : decode cX2_applyLabel 12 = .ok (.invokevirtual 108, 3) := by decide +kernel
theorem dX2_applyLabel_15 : decode cX2_applyLabel 15 = .ok (.invokevirtual 104, 3) := by decide +kernel
theorem dX2_applyLabel_18 : decode cX2_applyLabel 18 = .ok (.lstore_n 1, 1) := by decide +kernel
theorem dX2_applyLabel_19 : decode cX2_applyLabel 19 = .ok (.aload_n 0, 1) := by decide +kernel
theorem dX2_applyLabel_20 : decode cX2_applyLabel 20 = .ok (.getfield 46, 3) := by decide +kernel
theorem dX2_applyLabel_23 : decode cX2_applyLabel 23 = .ok (.aload_n 0, 1) := by decide +kernel
theorem dX2_applyLabel_24 : decode cX2_applyLabel 24 = .ok (.getfield 37, 3) := by decide +kernel
theorem dX2_applyLabel_27 : decode cX2_applyLabel 27 = .ok (.iconst 3, 1) := by decide +kernel
theorem dX2_applyLabel_28 : decode cX2_applyLabel 28 = .ok (.invokevirtual 139, 3) := by decide +kernel
theorem dX2_applyLabel_31 : decode cX2_applyLabel 31 = .ok (.ifCond .eq 10, 3) := by decide +kernel
theorem dX2_applyLabel_34 : decode cX2_applyLabel 34 = .ok (.lload_n 1, 1) := by decide +kernel
theorem dX2_applyLabel_35 : decode cX2_applyLabel 35 = .ok (.invokestatic 143, 3) := by decide +kernel
theorem dX2_applyLabel_38 : decode cX2_applyLabel 38 = .ok (.ifCond .ne 11, 3) := by decide +kernel
theorem dX2_applyLabel_41 : decode cX2_applyLabel 41 = .ok (.aload_n 0, 1) := by decide +kernel
theorem dX2_applyLabel_42 : decode cX2_applyLabel 42 = .ok (.iconst 3, 1) := by decide +kernel
theorem dX2_applyLabel_43 : decode cX2_applyLabel 43 = .ok (.putfield 25, 3) := by decide +kernel
theorem dX2_applyLabel_46 : decode cX2_applyLabel 46 = .ok (.goto 94, 3) := by decide +kernel
theorem dX2_applyLabel_49 : decode cX2_applyLabel 49 = .ok (.aload_n 0, 1) := by decide +kernel
theorem dX2_applyLabel_50 : decode cX2_applyLabel 50 = .ok (.getfield 58, 3) := by decide +kernel
theorem dX2_applyLabel_53 : decode cX2_applyLabel 53 = .ok (.iconst 2, 1) := by decide +kernel
theorem dX2_applyLabel_54 : decode cX2_applyLabel 54 = .ok (.aload_n 0, 1) := by decide +kernel
theorem dX2_applyLabel_55 : decode cX2_applyLabel 55 = .ok (.getfield 9, 3) := by decide +kernel
theorem dX2_applyLabel_58 : decode cX2_applyLabel 58 = .ok (.aload_n 0, 1) := by decide +kernel
theorem dX2_applyLabel_59 : decode cX2_applyLabel 59 = .ok (.getfield 15, 3) := by decide +kernel
theorem dX2_applyLabel_62 : decode cX2_applyLabel 62 = .ok (.aload_n 0, 1) := by decide +kernel
theorem dX2_applyLabel_63 : decode cX2_applyLabel 63 = .ok (.getfield 37, 3) := by decide +kernel
theorem dX2_applyLabel_66 : decode cX2_applyLabel 66 = .ok (.aload_n 0, 1) := by decide +kernel
theorem dX2_applyLabel_67 : decode cX2_applyLabel 67 = .ok (.getfield 40, 3) := by decide +kernel
theorem dX2_applyLabel_70 : decode cX2_applyLabel 70 = .ok (.invokevirtual 216, 3) := by decide +kernel
theorem dX2_applyLabel_73 : decode cX2_applyLabel 73 = .ok (.ifCond .ne 12, 3) := by decide +kernel
theorem dX2_applyLabel_76 : decode cX2_applyLabel 76 = .ok (.aload_n 0, 1) := by decide +kernel
theorem dX2_applyLabel_77 : decode cX2_applyLabel 77 = .ok (.bipush 6, 2) := by decide +kernel
theorem dX2_applyLabel_79 : decode cX2_applyLabel 79 = .ok (.putfield 25, 3) := by decide +kernel
theorem dX2_applyLabel_82 : decode cX2_applyLabel 82 = .ok (.goto 58, 3) := by decide +kernel
theorem dX2_applyLabel_85 : decode cX2_applyLabel 85 = .ok (.aload_n 0, 1) := by decide +kernel
theorem dX2_applyLabel_86 : decode cX2_applyLabel 86 = .ok (.getfield 46, 3) := by decide +kernel
theorem dX2_applyLabel_89 : decode cX2_applyLabel 89 = .ok (.aload_n 0, 1) := by decide +kernel
theorem dX2_applyLabel_90 : decode cX2_applyLabel 90 = .ok (.getfield 46, 3) := by decide +kernel
theorem dX2_applyLabel_93 : decode cX2_applyLabel 93 = .ok (.aload_n 0, 1) := by decide +kernel
theorem dX2_applyLabel_94 : decode cX2_applyLabel 94 = .ok (.getfield 46, 3) := by decide +kernel
theorem dX2_applyLabel_97 : decode cX2_applyLabel 97 = .ok (.aload_n 0, 1) := by decide +kernel
theorem dX2_applyLabel_98 : decode cX2_applyLabel 98 = .ok (.getfield 37, 3) := by decide +kernel
theorem dX2_applyLabel_101 : decode cX2_applyLabel 101 = .ok (.invokevirtual 108, 3) := by decide +kernel
theorem dX2_applyLabel_104 : decode cX2_applyLabel 104 = .ok (.invokevirtual 108, 3) := by decide +kernel
theorem dX2_applyLabel_107 : decode cX2_applyLabel 107 = .ok (.invokevirtual 104, 3) := by decide +kernel
theorem dX2_applyLabel_110 : decode cX2_applyLabel 110 = .ok (.lstore_n 3, 1) := by decide +kernel
theorem dX2_applyLabel_111 : decode cX2_applyLabel 111 = .ok (.aload_n 0, 1) := by decide +kernel
theorem dX2_applyLabel_112 : decode cX2_applyLabel 112 = .ok (.aload_n 0, 1) := by decide +kernel
theorem dX2_applyLabel_113 : decode cX2_applyLabel 113 = .ok (.getfield 46, 3) := by decide +kernel
theorem dX2_applyLabel_116 : decode cX2_applyLabel 116 = .ok (.aload_n 0, 1) := by decide +kernel
theorem dX2_applyLabel_117 : decode cX2_applyLabel 117 = .ok (.getfield 46, 3) := by decide +kernel
theorem dX2_applyLabel_120 : decode cX2_applyLabel 120 = .ok (.lload_n 1, 1) := by decide +kernel
theorem dX2_applyLabel_121 : decode cX2_applyLabel 121 = .ok (.lload_n 3, 1) := by decide +kernel
theorem dX2_applyLabel_122 : decode cX2_applyLabel 122 = .ok (.invokevirtual 225, 3) := by decide +kernel
theorem dX2_applyLabel_125 : decode cX2_applyLabel 125 = .ok (.aload_n 0, 1) := by decide +kernel
theorem dX2_applyLabel_126 : decode cX2_applyLabel 126 = .ok (.getfield 40, 3) := by decide +kernel
theorem dX2_applyLabel_129 : decode cX2_applyLabel 129 = .ok (.invokevirtual 225, 3) := by decide +kernel
theorem dX2_applyLabel_132 : decode cX2_applyLabel 132 = .ok (.putfield 40, 3) := by decide +kernel
theorem dX2_applyLabel_135 : decode cX2_applyLabel 135 = .ok (.aload_n 0, 1) := by decide +kernel
theorem dX2_applyLabel_136 : decode cX2_applyLabel 136 = .ok (.lload_n 3, 1) := by decide +kernel
theorem dX2_applyLabel_137 : decode cX2_applyLabel 137 = .ok (.invokevirtual 155, 3) := by decide +kernel
theorem dX2_applyLabel_140 : decode cX2_applyLabel 140 = .ok (.return_, 1) := by decide +kernel
theorem dX2_valuesOf_0 : decode cX2_valuesOf 0 = .ok (.iload_n 0, 1) := by decide +kernel
theorem dX2_valuesOf_1 : decode cX2_valuesOf 1 = .ok (.tableswitch 45 7 13 #[43, 43, 45, 43, 45, 43, 43], 43) := by decide +kernel
theorem dX2_valuesOf_44 : decode cX2_valuesOf 44 = .ok (.iconst 1, 1) := by decide +kernel
theorem dX2_valuesOf_45 : decode cX2_valuesOf 45 = .ok (.ireturn, 1) := by decide +kernel
theorem dX2_valuesOf_46 : decode cX2_valuesOf 46 = .ok (.iconst 2, 1) := by decide +kernel
theorem dX2_valuesOf_47 : decode cX2_valuesOf 47 = .ok (.ireturn, 1) := by decide +kernel
theorem dX2_applyBuiltIn_0 : decode cX2_applyBuiltIn 0 = .ok (.aload_n 0, 1) := by decide +kernel
theorem dX2_applyBuiltIn_1 : decode cX2_applyBuiltIn 1 = .ok (.getfield 15, 3) := by decide +kernel
theorem dX2_applyBuiltIn_4 : decode cX2_applyBuiltIn 4 = .ok (.iload_n 1, 1) := by decide +kernel
theorem dX2_applyBuiltIn_5 : decode cX2_applyBuiltIn 5 = .ok (.invokestatic 232, 3) := by decide +kernel
theorem dX2_applyBuiltIn_8 : decode cX2_applyBuiltIn 8 = .ok (.if_icmp .eq 9, 3) := by decide +kernel
theorem dX2_applyBuiltIn_11 : decode cX2_applyBuiltIn 11 = .ok (.aload_n 0, 1) := by decide +kernel
theorem dX2_applyBuiltIn_12 : decode cX2_applyBuiltIn 12 = .ok (.iconst 3, 1) := by decide +kernel
theorem dX2_applyBuiltIn_13 : decode cX2_applyBuiltIn 13 = .ok (.putfield 25, 3) := by decide +kernel
theorem dX2_applyBuiltIn_16 : decode cX2_applyBuiltIn 16 = .ok (.return_, 1) := by decide +kernel
theorem dX2_applyBuiltIn_17 : decode cX2_applyBuiltIn 17 = .ok (.iload_n 1, 1) := by decide +kernel
theorem dX2_applyBuiltIn_18 : decode cX2_applyBuiltIn 18 = .ok (.tableswitch 147 7 13 #[42, 42, 56, 63, 87, 106, 131], 42) := by decide +kernel
theorem dX2_applyBuiltIn_60 : decode cX2_applyBuiltIn 60 = .ok (.aload_n 0, 1) := by decide +kernel
theorem dX2_applyBuiltIn_61 : decode cX2_applyBuiltIn 61 = .ok (.iload_n 1, 1) := by decide +kernel
theorem dX2_applyBuiltIn_62 : decode cX2_applyBuiltIn 62 = .ok (.aload_n 0, 1) := by decide +kernel
theorem dX2_applyBuiltIn_63 : decode cX2_applyBuiltIn 63 = .ok (.getfield 9, 3) := by decide +kernel
theorem dX2_applyBuiltIn_66 : decode cX2_applyBuiltIn 66 = .ok (.iconst 0, 1) := by decide +kernel
theorem dX2_applyBuiltIn_67 : decode cX2_applyBuiltIn 67 = .ok (.laload, 1) := by decide +kernel
theorem dX2_applyBuiltIn_68 : decode cX2_applyBuiltIn 68 = .ok (.invokevirtual 236, 3) := by decide +kernel
theorem dX2_applyBuiltIn_71 : decode cX2_applyBuiltIn 71 = .ok (.goto 111, 3) := by decide +kernel
theorem dX2_applyBuiltIn_74 : decode cX2_applyBuiltIn 74 = .ok (.aload_n 0, 1) := by decide +kernel
theorem dX2_applyBuiltIn_75 : decode cX2_applyBuiltIn 75 = .ok (.invokevirtual 240, 3) := by decide +kernel
theorem dX2_applyBuiltIn_78 : decode cX2_applyBuiltIn 78 = .ok (.goto 104, 3) := by decide +kernel
theorem dX2_applyBuiltIn_81 : decode cX2_applyBuiltIn 81 = .ok (.aload_n 0, 1) := by decide +kernel
theorem dX2_applyBuiltIn_82 : decode cX2_applyBuiltIn 82 = .ok (.aload_n 0, 1) := by decide +kernel
theorem dX2_applyBuiltIn_83 : decode cX2_applyBuiltIn 83 = .ok (.getfield 9, 3) := by decide +kernel
theorem dX2_applyBuiltIn_86 : decode cX2_applyBuiltIn 86 = .ok (.iconst 0, 1) := by decide +kernel
theorem dX2_applyBuiltIn_87 : decode cX2_applyBuiltIn 87 = .ok (.laload, 1) := by decide +kernel
theorem dX2_applyBuiltIn_88 : decode cX2_applyBuiltIn 88 = .ok (.invokestatic 75, 3) := by decide +kernel
theorem dX2_applyBuiltIn_91 : decode cX2_applyBuiltIn 91 = .ok (.ifCond .ne 7, 3) := by decide +kernel
theorem dX2_applyBuiltIn_94 : decode cX2_applyBuiltIn 94 = .ok (.iconst 1, 1) := by decide +kernel
theorem dX2_applyBuiltIn_95 : decode cX2_applyBuiltIn 95 = .ok (.goto 4, 3) := by decide +kernel
theorem dX2_applyBuiltIn_98 : decode cX2_applyBuiltIn 98 = .ok (.iconst 0, 1) := by decide +kernel
theorem dX2_applyBuiltIn_99 : decode cX2_applyBuiltIn 99 = .ok (.invokevirtual 243, 3) := by decide +kernel
theorem dX2_applyBuiltIn_102 : decode cX2_applyBuiltIn 102 = .ok (.goto 80, 3) := by decide +kernel
theorem dX2_applyBuiltIn_105 : decode cX2_applyBuiltIn 105 = .ok (.aload_n 0, 1) := by decide +kernel
theorem dX2_applyBuiltIn_106 : decode cX2_applyBuiltIn 106 = .ok (.aload_n 0, 1) := by decide +kernel
theorem dX2_applyBuiltIn_107 : decode cX2_applyBuiltIn 107 = .ok (.getfield 9, 3) := by decide +kernel
theorem dX2_applyBuiltIn_110 : decode cX2_applyBuiltIn 110 = .ok (.iconst 0, 1) := by decide +kernel
theorem dX2_applyBuiltIn_111 : decode cX2_applyBuiltIn 111 = .ok (.laload, 1) := by decide +kernel
theorem dX2_applyBuiltIn_112 : decode cX2_applyBuiltIn 112 = .ok (.aload_n 0, 1) := by decide +kernel
theorem dX2_applyBuiltIn_113 : decode cX2_applyBuiltIn 113 = .ok (.getfield 9, 3) := by decide +kernel
theorem dX2_applyBuiltIn_116 : decode cX2_applyBuiltIn 116 = .ok (.iconst 1, 1) := by decide +kernel
theorem dX2_applyBuiltIn_117 : decode cX2_applyBuiltIn 117 = .ok (.laload, 1) := by decide +kernel
theorem dX2_applyBuiltIn_118 : decode cX2_applyBuiltIn 118 = .ok (.invokevirtual 247, 3) := by decide +kernel
theorem dX2_applyBuiltIn_121 : decode cX2_applyBuiltIn 121 = .ok (.goto 61, 3) := by decide +kernel
theorem dX2_applyBuiltIn_124 : decode cX2_applyBuiltIn 124 = .ok (.aload_n 0, 1) := by decide +kernel
theorem dX2_applyBuiltIn_125 : decode cX2_applyBuiltIn 125 = .ok (.aload_n 0, 1) := by decide +kernel
theorem dX2_applyBuiltIn_126 : decode cX2_applyBuiltIn 126 = .ok (.getfield 9, 3) := by decide +kernel
theorem dX2_applyBuiltIn_129 : decode cX2_applyBuiltIn 129 = .ok (.iconst 0, 1) := by decide +kernel
theorem dX2_applyBuiltIn_130 : decode cX2_applyBuiltIn 130 = .ok (.laload, 1) := by decide +kernel
theorem dX2_applyBuiltIn_131 : decode cX2_applyBuiltIn 131 = .ok (.ldc2_w 28, 3) := by decide +kernel
theorem dX2_applyBuiltIn_134 : decode cX2_applyBuiltIn 134 = .ok (.lcmp, 1) := by decide +kernel
theorem dX2_applyBuiltIn_135 : decode cX2_applyBuiltIn 135 = .ok (.ifCond .ne 7, 3) := by decide +kernel
theorem dX2_applyBuiltIn_138 : decode cX2_applyBuiltIn 138 = .ok (.iconst 1, 1) := by decide +kernel
theorem dX2_applyBuiltIn_139 : decode cX2_applyBuiltIn 139 = .ok (.goto 4, 3) := by decide +kernel
theorem dX2_applyBuiltIn_142 : decode cX2_applyBuiltIn 142 = .ok (.iconst 0, 1) := by decide +kernel
theorem dX2_applyBuiltIn_143 : decode cX2_applyBuiltIn 143 = .ok (.invokevirtual 243, 3) := by decide +kernel
theorem dX2_applyBuiltIn_146 : decode cX2_applyBuiltIn 146 = .ok (.goto 36, 3) := by decide +kernel
theorem dX2_applyBuiltIn_149 : decode cX2_applyBuiltIn 149 = .ok (.aload_n 0, 1) := by decide +kernel
theorem dX2_applyBuiltIn_150 : decode cX2_applyBuiltIn 150 = .ok (.aload_n 0, 1) := by decide +kernel
theorem dX2_applyBuiltIn_151 : decode cX2_applyBuiltIn 151 = .ok (.getfield 9, 3) := by decide +kernel
theorem dX2_applyBuiltIn_154 : decode cX2_applyBuiltIn 154 = .ok (.iconst 0, 1) := by decide +kernel
theorem dX2_applyBuiltIn_155 : decode cX2_applyBuiltIn 155 = .ok (.laload, 1) := by decide +kernel
theorem dX2_applyBuiltIn_156 : decode cX2_applyBuiltIn 156 = .ok (.invokestatic 250, 3) := by decide +kernel
theorem dX2_applyBuiltIn_159 : decode cX2_applyBuiltIn 159 = .ok (.invokevirtual 243, 3) := by decide +kernel
theorem dX2_applyBuiltIn_162 : decode cX2_applyBuiltIn 162 = .ok (.goto 20, 3) := by decide +kernel
theorem dX2_applyBuiltIn_165 : decode cX2_applyBuiltIn 165 = .ok (.aload_n 0, 1) := by decide +kernel
theorem dX2_applyBuiltIn_166 : decode cX2_applyBuiltIn 166 = .ok (.iload_n 1, 1) := by decide +kernel
theorem dX2_applyBuiltIn_167 : decode cX2_applyBuiltIn 167 = .ok (.aload_n 0, 1) := by decide +kernel
theorem dX2_applyBuiltIn_168 : decode cX2_applyBuiltIn 168 = .ok (.getfield 9, 3) := by decide +kernel
theorem dX2_applyBuiltIn_171 : decode cX2_applyBuiltIn 171 = .ok (.iconst 0, 1) := by decide +kernel
theorem dX2_applyBuiltIn_172 : decode cX2_applyBuiltIn 172 = .ok (.laload, 1) := by decide +kernel
theorem dX2_applyBuiltIn_173 : decode cX2_applyBuiltIn 173 = .ok (.aload_n 0, 1) := by decide +kernel
theorem dX2_applyBuiltIn_174 : decode cX2_applyBuiltIn 174 = .ok (.getfield 9, 3) := by decide +kernel
theorem dX2_applyBuiltIn_177 : decode cX2_applyBuiltIn 177 = .ok (.iconst 1, 1) := by decide +kernel
theorem dX2_applyBuiltIn_178 : decode cX2_applyBuiltIn 178 = .ok (.laload, 1) := by decide +kernel
theorem dX2_applyBuiltIn_179 : decode cX2_applyBuiltIn 179 = .ok (.invokevirtual 253, 3) := by decide +kernel
theorem dX2_applyBuiltIn_182 : decode cX2_applyBuiltIn 182 = .ok (.return_, 1) := by decide +kernel
theorem dX2_takePart_0 : decode cX2_takePart 0 = .ok (.lload_n 2, 1) := by decide +kernel
theorem dX2_takePart_1 : decode cX2_takePart 1 = .ok (.invokestatic 75, 3) := by decide +kernel
theorem dX2_takePart_4 : decode cX2_takePart 4 = .ok (.ifCond .eq 35, 3) := by decide +kernel
theorem dX2_takePart_7 : decode cX2_takePart 7 = .ok (.aload_n 0, 1) := by decide +kernel
theorem dX2_takePart_8 : decode cX2_takePart 8 = .ok (.iload_n 1, 1) := by decide +kernel
theorem dX2_takePart_9 : decode cX2_takePart 9 = .ok (.bipush 7, 2) := by decide +kernel
theorem dX2_takePart_11 : decode cX2_takePart 11 = .ok (.if_icmp .ne 14, 3) := by decide +kernel
theorem dX2_takePart_14 : decode cX2_takePart 14 = .ok (.aload_n 0, 1) := by decide +kernel
theorem dX2_takePart_15 : decode cX2_takePart 15 = .ok (.getfield 46, 3) := by decide +kernel
theorem dX2_takePart_18 : decode cX2_takePart 18 = .ok (.lload_n 2, 1) := by decide +kernel
theorem dX2_takePart_19 : decode cX2_takePart 19 = .ok (.invokevirtual 104, 3) := by decide +kernel
theorem dX2_takePart_22 : decode cX2_takePart 22 = .ok (.goto 11, 3) := by decide +kernel
theorem dX2_takePart_25 : decode cX2_takePart 25 = .ok (.aload_n 0, 1) := by decide +kernel
theorem dX2_takePart_26 : decode cX2_takePart 26 = .ok (.getfield 46, 3) := by decide +kernel
theorem dX2_takePart_29 : decode cX2_takePart 29 = .ok (.lload_n 2, 1) := by decide +kernel
theorem dX2_takePart_30 : decode cX2_takePart 30 = .ok (.invokevirtual 108, 3) := by decide +kernel
theorem dX2_takePart_33 : decode cX2_takePart 33 = .ok (.invokevirtual 95, 3) := by decide +kernel
theorem dX2_takePart_36 : decode cX2_takePart 36 = .ok (.goto 8, 3) := by decide +kernel
theorem dX2_takePart_39 : decode cX2_takePart 39 = .ok (.aload_n 0, 1) := by decide +kernel
theorem dX2_takePart_40 : decode cX2_takePart 40 = .ok (.iconst 2, 1) := by decide +kernel
theorem dX2_takePart_41 : decode cX2_takePart 41 = .ok (.putfield 25, 3) := by decide +kernel
theorem dX2_takePart_44 : decode cX2_takePart 44 = .ok (.return_, 1) := by decide +kernel
theorem dX2_makePair_0 : decode cX2_makePair 0 = .ok (.aload_n 0, 1) := by decide +kernel
theorem dX2_makePair_1 : decode cX2_makePair 1 = .ok (.getfield 58, 3) := by decide +kernel
theorem dX2_makePair_4 : decode cX2_makePair 4 = .ok (.iconst 1, 1) := by decide +kernel
theorem dX2_makePair_5 : decode cX2_makePair 5 = .ok (.aload_n 0, 1) := by decide +kernel
theorem dX2_makePair_6 : decode cX2_makePair 6 = .ok (.getfield 9, 3) := by decide +kernel
theorem dX2_makePair_9 : decode cX2_makePair 9 = .ok (.iconst 2, 1) := by decide +kernel
theorem dX2_makePair_10 : decode cX2_makePair 10 = .ok (.ldc2_w 28, 3) := by decide +kernel
theorem dX2_makePair_13 : decode cX2_makePair 13 = .ok (.ldc2_w 28, 3) := by decide +kernel
theorem dX2_makePair_16 : decode cX2_makePair 16 = .ok (.invokevirtual 216, 3) := by decide +kernel
theorem dX2_makePair_19 : decode cX2_makePair 19 = .ok (.ifCond .eq 29, 3) := by decide +kernel
theorem dX2_makePair_22 : decode cX2_makePair 22 = .ok (.aload_n 0, 1) := by decide +kernel
theorem dX2_makePair_23 : decode cX2_makePair 23 = .ok (.aload_n 0, 1) := by decide +kernel
theorem dX2_makePair_24 : decode cX2_makePair 24 = .ok (.getfield 46, 3) := by decide +kernel
theorem dX2_makePair_27 : decode cX2_makePair 27 = .ok (.aload_n 0, 1) := by decide +kernel
theorem dX2_makePair_28 : decode cX2_makePair 28 = .ok (.getfield 9, 3) := by decide +kernel
theorem dX2_makePair_31 : decode cX2_makePair 31 = .ok (.iconst 0, 1) := by decide +kernel
theorem dX2_makePair_32 : decode cX2_makePair 32 = .ok (.laload, 1) := by decide +kernel
theorem dX2_makePair_33 : decode cX2_makePair 33 = .ok (.aload_n 0, 1) := by decide +kernel
theorem dX2_makePair_34 : decode cX2_makePair 34 = .ok (.getfield 9, 3) := by decide +kernel
theorem dX2_makePair_37 : decode cX2_makePair 37 = .ok (.iconst 1, 1) := by decide +kernel
theorem dX2_makePair_38 : decode cX2_makePair 38 = .ok (.laload, 1) := by decide +kernel
theorem dX2_makePair_39 : decode cX2_makePair 39 = .ok (.invokevirtual 225, 3) := by decide +kernel
theorem dX2_makePair_42 : decode cX2_makePair 42 = .ok (.invokevirtual 95, 3) := by decide +kernel
theorem dX2_makePair_45 : decode cX2_makePair 45 = .ok (.goto 9, 3) := by decide +kernel
theorem dX2_makePair_48 : decode cX2_makePair 48 = .ok (.aload_n 0, 1) := by decide +kernel
theorem dX2_makePair_49 : decode cX2_makePair 49 = .ok (.bipush 6, 2) := by decide +kernel
theorem dX2_makePair_51 : decode cX2_makePair 51 = .ok (.putfield 25, 3) := by decide +kernel
theorem dX2_makePair_54 : decode cX2_makePair 54 = .ok (.return_, 1) := by decide +kernel
theorem dX2_compareAtoms_0 : decode cX2_compareAtoms 0 = .ok (.lload_n 1, 1) := by decide +kernel
theorem dX2_compareAtoms_1 : decode cX2_compareAtoms 1 = .ok (.invokestatic 75, 3) := by decide +kernel
theorem dX2_compareAtoms_4 : decode cX2_compareAtoms 4 = .ok (.ifCond .ne 10, 3) := by decide +kernel
theorem dX2_compareAtoms_7 : decode cX2_compareAtoms 7 = .ok (.lload_n 3, 1) := by decide +kernel
theorem dX2_compareAtoms_8 : decode cX2_compareAtoms 8 = .ok (.invokestatic 75, 3) := by decide +kernel
theorem dX2_compareAtoms_11 : decode cX2_compareAtoms 11 = .ok (.ifCond .eq 11, 3) := by decide +kernel
theorem dX2_compareAtoms_14 : decode cX2_compareAtoms 14 = .ok (.aload_n 0, 1) := by decide +kernel
theorem dX2_compareAtoms_15 : decode cX2_compareAtoms 15 = .ok (.iconst 2, 1) := by decide +kernel
theorem dX2_compareAtoms_16 : decode cX2_compareAtoms 16 = .ok (.putfield 25, 3) := by decide +kernel
theorem dX2_compareAtoms_19 : decode cX2_compareAtoms 19 = .ok (.goto 18, 3) := by decide +kernel
theorem dX2_compareAtoms_22 : decode cX2_compareAtoms 22 = .ok (.aload_n 0, 1) := by decide +kernel
theorem dX2_compareAtoms_23 : decode cX2_compareAtoms 23 = .ok (.lload_n 1, 1) := by decide +kernel
theorem dX2_compareAtoms_24 : decode cX2_compareAtoms 24 = .ok (.lload_n 3, 1) := by decide +kernel
theorem dX2_compareAtoms_25 : decode cX2_compareAtoms 25 = .ok (.lcmp, 1) := by decide +kernel
theorem dX2_compareAtoms_26 : decode cX2_compareAtoms 26 = .ok (.ifCond .ne 7, 3) := by decide +kernel
theorem dX2_compareAtoms_29 : decode cX2_compareAtoms 29 = .ok (.iconst 1, 1) := by decide +kernel
theorem dX2_compareAtoms_30 : decode cX2_compareAtoms 30 = .ok (.goto 4, 3) := by decide +kernel
theorem dX2_compareAtoms_33 : decode cX2_compareAtoms 33 = .ok (.iconst 0, 1) := by decide +kernel
theorem dX2_compareAtoms_34 : decode cX2_compareAtoms 34 = .ok (.invokevirtual 243, 3) := by decide +kernel
theorem dX2_compareAtoms_37 : decode cX2_compareAtoms 37 = .ok (.return_, 1) := by decide +kernel
theorem dX2_reckon_0 : decode cX2_reckon 0 = .ok (.lload_n 2, 1) := by decide +kernel
theorem dX2_reckon_1 : decode cX2_reckon 1 = .ok (.invokestatic 250, 3) := by decide +kernel
theorem dX2_reckon_4 : decode cX2_reckon 4 = .ok (.ifCond .eq 11, 3) := by decide +kernel
theorem dX2_reckon_7 : decode cX2_reckon 7 = .ok (.lload 4, 2) := by decide +kernel
theorem dX2_reckon_9 : decode cX2_reckon 9 = .ok (.invokestatic 250, 3) := by decide +kernel
theorem dX2_reckon_12 : decode cX2_reckon 12 = .ok (.ifCond .ne 9, 3) := by decide +kernel
theorem dX2_reckon_15 : decode cX2_reckon 15 = .ok (.aload_n 0, 1) := by decide +kernel
theorem dX2_reckon_16 : decode cX2_reckon 16 = .ok (.iconst 2, 1) := by decide +kernel
theorem dX2_reckon_17 : decode cX2_reckon 17 = .ok (.putfield 25, 3) := by decide +kernel
theorem dX2_reckon_20 : decode cX2_reckon 20 = .ok (.return_, 1) := by decide +kernel
theorem dX2_reckon_21 : decode cX2_reckon 21 = .ok (.lload_n 2, 1) := by decide +kernel
theorem dX2_reckon_22 : decode cX2_reckon 22 = .ok (.l2i, 1) := by decide +kernel
theorem dX2_reckon_23 : decode cX2_reckon 23 = .ok (.istore 6, 2) := by decide +kernel
theorem dX2_reckon_25 : decode cX2_reckon 25 = .ok (.lload 4, 2) := by decide +kernel
theorem dX2_reckon_27 : decode cX2_reckon 27 = .ok (.l2i, 1) := by decide +kernel
theorem dX2_reckon_28 : decode cX2_reckon 28 = .ok (.istore 7, 2) := by decide +kernel
theorem dX2_reckon_30 : decode cX2_reckon 30 = .ok (.iload_n 1, 1) := by decide +kernel
theorem dX2_reckon_31 : decode cX2_reckon 31 = .ok (.tableswitch 64 14 16 #[25, 38, 51], 25) := by decide +kernel
theorem dX2_reckon_56 : decode cX2_reckon 56 = .ok (.aload_n 0, 1) := by decide +kernel
theorem dX2_reckon_57 : decode cX2_reckon 57 = .ok (.iload 6, 2) := by decide +kernel
theorem dX2_reckon_59 : decode cX2_reckon 59 = .ok (.iload 7, 2) := by decide +kernel
theorem dX2_reckon_61 : decode cX2_reckon 61 = .ok (.iadd, 1) := by decide +kernel
theorem dX2_reckon_62 : decode cX2_reckon 62 = .ok (.i2l, 1) := by decide +kernel
theorem dX2_reckon_63 : decode cX2_reckon 63 = .ok (.invokevirtual 95, 3) := by decide +kernel
theorem dX2_reckon_66 : decode cX2_reckon 66 = .ok (.goto 45, 3) := by decide +kernel
theorem dX2_reckon_69 : decode cX2_reckon 69 = .ok (.aload_n 0, 1) := by decide +kernel
theorem dX2_reckon_70 : decode cX2_reckon 70 = .ok (.iload 6, 2) := by decide +kernel
theorem dX2_reckon_72 : decode cX2_reckon 72 = .ok (.iload 7, 2) := by decide +kernel
theorem dX2_reckon_74 : decode cX2_reckon 74 = .ok (.isub, 1) := by decide +kernel
theorem dX2_reckon_75 : decode cX2_reckon 75 = .ok (.i2l, 1) := by decide +kernel
theorem dX2_reckon_76 : decode cX2_reckon 76 = .ok (.invokevirtual 95, 3) := by decide +kernel
theorem dX2_reckon_79 : decode cX2_reckon 79 = .ok (.goto 32, 3) := by decide +kernel
theorem dX2_reckon_82 : decode cX2_reckon 82 = .ok (.aload_n 0, 1) := by decide +kernel
theorem dX2_reckon_83 : decode cX2_reckon 83 = .ok (.iload 6, 2) := by decide +kernel
theorem dX2_reckon_85 : decode cX2_reckon 85 = .ok (.iload 7, 2) := by decide +kernel
theorem dX2_reckon_87 : decode cX2_reckon 87 = .ok (.imul, 1) := by decide +kernel
theorem dX2_reckon_88 : decode cX2_reckon 88 = .ok (.i2l, 1) := by decide +kernel
theorem dX2_reckon_89 : decode cX2_reckon 89 = .ok (.invokevirtual 95, 3) := by decide +kernel
theorem dX2_reckon_92 : decode cX2_reckon 92 = .ok (.goto 19, 3) := by decide +kernel
theorem dX2_reckon_95 : decode cX2_reckon 95 = .ok (.aload_n 0, 1) := by decide +kernel
theorem dX2_reckon_96 : decode cX2_reckon 96 = .ok (.iload 6, 2) := by decide +kernel
theorem dX2_reckon_98 : decode cX2_reckon 98 = .ok (.iload 7, 2) := by decide +kernel
theorem dX2_reckon_100 : decode cX2_reckon 100 = .ok (.if_icmp .ge 7, 3) := by decide +kernel
theorem dX2_reckon_103 : decode cX2_reckon 103 = .ok (.iconst 1, 1) := by decide +kernel
theorem dX2_reckon_104 : decode cX2_reckon 104 = .ok (.goto 4, 3) := by decide +kernel
theorem dX2_reckon_107 : decode cX2_reckon 107 = .ok (.iconst 0, 1) := by decide +kernel
theorem dX2_reckon_108 : decode cX2_reckon 108 = .ok (.invokevirtual 243, 3) := by decide +kernel
theorem dX2_reckon_111 : decode cX2_reckon 111 = .ok (.return_, 1) := by decide +kernel
theorem dX3_init_0 : decode cX3_init 0 = .ok (.aload_n 0, 1) := by decide +kernel
theorem dX3_init_1 : decode cX3_init 1 = .ok (.invokespecial 3, 3) := by decide +kernel
theorem dX3_init_4 : decode cX3_init 4 = .ok (.aload_n 0, 1) := by decide +kernel
theorem dX3_init_5 : decode cX3_init 5 = .ok (.sipush 150, 3) := by decide +kernel
theorem dX3_init_8 : decode cX3_init 8 = .ok (.newarray .long, 2) := by decide +kernel
theorem dX3_init_10 : decode cX3_init 10 = .ok (.putfield 9, 3) := by decide +kernel
theorem dX3_init_13 : decode cX3_init 13 = .ok (.aload_n 0, 1) := by decide +kernel
theorem dX3_init_14 : decode cX3_init 14 = .ok (.sipush 150, 3) := by decide +kernel
theorem dX3_init_17 : decode cX3_init 17 = .ok (.newarray .long, 2) := by decide +kernel
theorem dX3_init_19 : decode cX3_init 19 = .ok (.putfield 15, 3) := by decide +kernel
theorem dX3_init_22 : decode cX3_init 22 = .ok (.aload_n 0, 1) := by decide +kernel
theorem dX3_init_23 : decode cX3_init 23 = .ok (.iconst 0, 1) := by decide +kernel
theorem dX3_init_24 : decode cX3_init 24 = .ok (.putfield 18, 3) := by decide +kernel
theorem dX3_init_27 : decode cX3_init 27 = .ok (.aload_n 0, 1) := by decide +kernel
theorem dX3_init_28 : decode cX3_init 28 = .ok (.iconst 0, 1) := by decide +kernel
theorem dX3_init_29 : decode cX3_init 29 = .ok (.putfield 22, 3) := by decide +kernel
theorem dX3_init_32 : decode cX3_init 32 = .ok (.iconst 0, 1) := by decide +kernel
theorem dX3_init_33 : decode cX3_init 33 = .ok (.istore_n 1, 1) := by decide +kernel
theorem dX3_init_34 : decode cX3_init 34 = .ok (.iload_n 1, 1) := by decide +kernel
theorem dX3_init_35 : decode cX3_init 35 = .ok (.sipush 150, 3) := by decide +kernel
theorem dX3_init_38 : decode cX3_init 38 = .ok (.if_icmp .ge 18, 3) := by decide +kernel
theorem dX3_init_41 : decode cX3_init 41 = .ok (.aload_n 0, 1) := by decide +kernel
theorem dX3_init_42 : decode cX3_init 42 = .ok (.getfield 15, 3) := by decide +kernel
theorem dX3_init_45 : decode cX3_init 45 = .ok (.iload_n 1, 1) := by decide +kernel
theorem dX3_init_46 : decode cX3_init 46 = .ok (.ldc2_w 26, 3) := by decide +kernel
theorem dX3_init_49 : decode cX3_init 49 = .ok (.lastore, 1) := by decide +kernel
theorem dX3_init_50 : decode cX3_init 50 = .ok (.iinc 1 1, 3) := by decide +kernel
theorem dX3_init_53 : decode cX3_init 53 = .ok (.goto (-19), 3) := by decide +kernel
theorem dX3_init_56 : decode cX3_init 56 = .ok (.lconst 0, 1) := by decide +kernel
theorem dX3_init_57 : decode cX3_init 57 = .ok (.lstore_n 1, 1) := by decide +kernel
theorem dX3_init_58 : decode cX3_init 58 = .ok (.iconst 0, 1) := by decide +kernel
theorem dX3_init_59 : decode cX3_init 59 = .ok (.istore_n 3, 1) := by decide +kernel
theorem dX3_init_60 : decode cX3_init 60 = .ok (.iload_n 3, 1) := by decide +kernel
theorem dX3_init_61 : decode cX3_init 61 = .ok (.ldc 28, 2) := by decide +kernel
theorem dX3_init_63 : decode cX3_init 63 = .ok (.invokevirtual 30, 3) := by decide +kernel
theorem dX3_init_66 : decode cX3_init 66 = .ok (.if_icmp .ge 46, 3) := by decide +kernel
theorem dX3_init_69 : decode cX3_init 69 = .ok (.ldc 28, 2) := by decide +kernel
theorem dX3_init_71 : decode cX3_init 71 = .ok (.iload_n 3, 1) := by decide +kernel
theorem dX3_init_72 : decode cX3_init 72 = .ok (.invokevirtual 36, 3) := by decide +kernel
theorem dX3_init_75 : decode cX3_init 75 = .ok (.invokestatic 40, 3) := by decide +kernel
theorem dX3_init_78 : decode cX3_init 78 = .ok (.istore 4, 2) := by decide +kernel
theorem dX3_init_80 : decode cX3_init 80 = .ok (.iload 4, 2) := by decide +kernel
theorem dX3_init_82 : decode cX3_init 82 = .ok (.ifCond .ne 14, 3) := by decide +kernel
theorem dX3_init_85 : decode cX3_init 85 = .ok (.aload_n 0, 1) := by decide +kernel
theorem dX3_init_86 : decode cX3_init 86 = .ok (.lload_n 1, 1) := by decide +kernel
theorem dX3_init_87 : decode cX3_init 87 = .ok (.invokevirtual 44, 3) := by decide +kernel
theorem dX3_init_90 : decode cX3_init 90 = .ok (.pop2, 1) := by decide +kernel
theorem dX3_init_91 : decode cX3_init 91 = .ok (.lconst 0, 1) := by decide +kernel
theorem dX3_init_92 : decode cX3_init 92 = .ok (.lstore_n 1, 1) := by decide +kernel
theorem dX3_init_93 : decode cX3_init 93 = .ok (.goto 13, 3) := by decide +kernel
theorem dX3_init_96 : decode cX3_init 96 = .ok (.lload_n 1, 1) := by decide +kernel
theorem dX3_init_97 : decode cX3_init 97 = .ok (.ldc2_w 48, 3) := by decide +kernel
theorem dX3_init_100 : decode cX3_init 100 = .ok (.lmul, 1) := by decide +kernel
theorem dX3_init_101 : decode cX3_init 101 = .ok (.iload 4, 2) := by decide +kernel
theorem dX3_init_103 : decode cX3_init 103 = .ok (.i2l, 1) := by decide +kernel
theorem dX3_init_104 : decode cX3_init 104 = .ok (.ladd, 1) := by decide +kernel
theorem dX3_init_105 : decode cX3_init 105 = .ok (.lstore_n 1, 1) := by decide +kernel
theorem dX3_init_106 : decode cX3_init 106 = .ok (.iinc 3 1, 3) := by decide +kernel
theorem dX3_init_109 : decode cX3_init 109 = .ok (.goto (-49), 3) := by decide +kernel
theorem dX3_init_112 : decode cX3_init 112 = .ok (.return_, 1) := by decide +kernel
theorem dX3_digitOf_0 : decode cX3_digitOf 0 = .ok (.iload_n 0, 1) := by decide +kernel
theorem dX3_digitOf_1 : decode cX3_digitOf 1 = .ok (.bipush 65, 2) := by decide +kernel
theorem dX3_digitOf_3 : decode cX3_digitOf 3 = .ok (.if_icmp .lt 16, 3) := by decide +kernel
theorem dX3_digitOf_6 : decode cX3_digitOf 6 = .ok (.iload_n 0, 1) := by decide +kernel
theorem dX3_digitOf_7 : decode cX3_digitOf 7 = .ok (.bipush 90, 2) := by decide +kernel
theorem dX3_digitOf_9 : decode cX3_digitOf 9 = .ok (.if_icmp .gt 10, 3) := by decide +kernel
theorem dX3_digitOf_12 : decode cX3_digitOf 12 = .ok (.iload_n 0, 1) := by decide +kernel
theorem dX3_digitOf_13 : decode cX3_digitOf 13 = .ok (.bipush 65, 2) := by decide +kernel
theorem dX3_digitOf_15 : decode cX3_digitOf 15 = .ok (.isub, 1) := by decide +kernel
theorem dX3_digitOf_16 : decode cX3_digitOf 16 = .ok (.iconst 1, 1) := by decide +kernel
theorem dX3_digitOf_17 : decode cX3_digitOf 17 = .ok (.iadd, 1) := by decide +kernel
theorem dX3_digitOf_18 : decode cX3_digitOf 18 = .ok (.ireturn, 1) := by decide +kernel
theorem dX3_digitOf_19 : decode cX3_digitOf 19 = .ok (.iload_n 0, 1) := by decide +kernel
theorem dX3_digitOf_20 : decode cX3_digitOf 20 = .ok (.bipush 48, 2) := by decide +kernel
theorem dX3_digitOf_22 : decode cX3_digitOf 22 = .ok (.if_icmp .lt 19, 3) := by decide +kernel
theorem dX3_digitOf_25 : decode cX3_digitOf 25 = .ok (.iload_n 0, 1) := by decide +kernel
theorem dX3_digitOf_26 : decode cX3_digitOf 26 = .ok (.bipush 57, 2) := by decide +kernel
theorem dX3_digitOf_28 : decode cX3_digitOf 28 = .ok (.if_icmp .gt 13, 3) := by decide +kernel
theorem dX3_digitOf_31 : decode cX3_digitOf 31 = .ok (.iload_n 0, 1) := by decide +kernel
theorem dX3_digitOf_32 : decode cX3_digitOf 32 = .ok (.bipush 48, 2) := by decide +kernel
theorem dX3_digitOf_34 : decode cX3_digitOf 34 = .ok (.isub, 1) := by decide +kernel
theorem dX3_digitOf_35 : decode cX3_digitOf 35 = .ok (.bipush 27, 2) := by decide +kernel
theorem dX3_digitOf_37 : decode cX3_digitOf 37 = .ok (.iadd, 1) := by decide +kernel
theorem dX3_digitOf_38 : decode cX3_digitOf 38 = .ok (.goto 4, 3) := by decide +kernel
theorem dX3_digitOf_41 : decode cX3_digitOf 41 = .ok (.iconst 0, 1) := by decide +kernel
theorem dX3_digitOf_42 : decode cX3_digitOf 42 = .ok (.ireturn, 1) := by decide +kernel
theorem dX3_characterOf_0 : decode cX3_characterOf 0 = .ok (.iload_n 0, 1) := by decide +kernel
theorem dX3_characterOf_1 : decode cX3_characterOf 1 = .ok (.bipush 27, 2) := by decide +kernel
theorem dX3_characterOf_3 : decode cX3_characterOf 3 = .ok (.if_icmp .ge 12, 3) := by decide +kernel
theorem dX3_characterOf_6 : decode cX3_characterOf 6 = .ok (.bipush 65, 2) := by decide +kernel
theorem dX3_characterOf_8 : decode cX3_characterOf 8 = .ok (.iload_n 0, 1) := by decide +kernel
theorem dX3_characterOf_9 : decode cX3_characterOf 9 = .ok (.iadd, 1) := by decide +kernel
theorem dX3_characterOf_10 : decode cX3_characterOf 10 = .ok (.iconst 1, 1) := by decide +kernel
theorem dX3_characterOf_11 : decode cX3_characterOf 11 = .ok (.isub, 1) := by decide +kernel
theorem dX3_characterOf_12 : decode cX3_characterOf 12 = .ok (.goto 10, 3) := by decide +kernel
theorem dX3_characterOf_15 : decode cX3_characterOf 15 = .ok (.bipush 48, 2) := by decide +kernel
theorem dX3_characterOf_17 : decode cX3_characterOf 17 = .ok (.iload_n 0, 1) := by decide +kernel
theorem dX3_characterOf_18 : decode cX3_characterOf 18 = .ok (.iadd, 1) := by decide +kernel
theorem dX3_characterOf_19 : decode cX3_characterOf 19 = .ok (.bipush 27, 2) := by decide +kernel
theorem dX3_characterOf_21 : decode cX3_characterOf 21 = .ok (.isub, 1) := by decide +kernel
theorem dX3_characterOf_22 : decode cX3_characterOf 22 = .ok (.i2c, 1) := by decide +kernel
theorem dX3_characterOf_23 : decode cX3_characterOf 23 = .ok (.ireturn, 1) := by decide +kernel
theorem dX3_wordOf_0 : decode cX3_wordOf 0 = .ok (.iconst 0, 1) := by decide +kernel
theorem dX3_wordOf_1 : decode cX3_wordOf 1 = .ok (.istore_n 3, 1) := by decide +kernel
theorem dX3_wordOf_2 : decode cX3_wordOf 2 = .ok (.iload_n 3, 1) := by decide +kernel
theorem dX3_wordOf_3 : decode cX3_wordOf 3 = .ok (.aload_n 0, 1) := by decide +kernel
theorem dX3_wordOf_4 : decode cX3_wordOf 4 = .ok (.getfield 18, 3) := by decide +kernel
theorem dX3_wordOf_7 : decode cX3_wordOf 7 = .ok (.if_icmp .ge 27, 3) := by decide +kernel
theorem dX3_wordOf_10 : decode cX3_wordOf 10 = .ok (.aload_n 0, 1) := by decide +kernel
theorem dX3_wordOf_11 : decode cX3_wordOf 11 = .ok (.getfield 9, 3) := by decide +kernel
theorem dX3_wordOf_14 : decode cX3_wordOf 14 = .ok (.iload_n 3, 1) := by decide +kernel
theorem dX3_wordOf_15 : decode cX3_wordOf 15 = .ok (.laload, 1) := by decide +kernel
theorem dX3_wordOf_16 : decode cX3_wordOf 16 = .ok (.lload_n 1, 1) := by decide +kernel
theorem dX3_wordOf_17 : decode cX3_wordOf 17 = .ok (.lcmp, 1) := by decide +kernel
theorem dX3_wordOf_18 : decode cX3_wordOf 18 = .ok (.ifCond .ne 10, 3) := by decide +kernel
theorem dX3_wordOf_21 : decode cX3_wordOf 21 = .ok (.ldc2_w 50, 3) := by decide +kernel
theorem dX3_wordOf_24 : decode cX3_wordOf 24 = .ok (.iload_n 3, 1) := by decide +kernel
theorem dX3_wordOf_25 : decode cX3_wordOf 25 = .ok (.i2l, 1) := by decide +kernel
theorem dX3_wordOf_26 : decode cX3_wordOf 26 = .ok (.ladd, 1) := by decide +kernel
theorem dX3_wordOf_27 : decode cX3_wordOf 27 = .ok (.lreturn, 1) := by decide +kernel
theorem dX3_wordOf_28 : decode cX3_wordOf 28 = .ok (.iinc 3 1, 3) := by decide +kernel
theorem dX3_wordOf_31 : decode cX3_wordOf 31 = .ok (.goto (-29), 3) := by decide +kernel
theorem dX3_wordOf_34 : decode cX3_wordOf 34 = .ok (.aload_n 0, 1) := by decide +kernel
theorem dX3_wordOf_35 : decode cX3_wordOf 35 = .ok (.getfield 18, 3) := by decide +kernel
theorem dX3_wordOf_38 : decode cX3_wordOf 38 = .ok (.sipush 150, 3) := by decide +kernel
theorem dX3_wordOf_41 : decode cX3_wordOf 41 = .ok (.if_icmp .lt 12, 3) := by decide +kernel
theorem dX3_wordOf_44 : decode cX3_wordOf 44 = .ok (.aload_n 0, 1) := by decide +kernel
theorem dX3_wordOf_45 : decode cX3_wordOf 45 = .ok (.iconst 1, 1) := by decide +kernel
theorem dX3_wordOf_46 : decode cX3_wordOf 46 = .ok (.putfield 22, 3) := by decide +kernel
theorem dX3_wordOf_49 : decode cX3_wordOf 49 = .ok (.ldc2_w 50, 3) := by decide +kernel
theorem dX3_wordOf_52 : decode cX3_wordOf 52 = .ok (.lreturn, 1) := by decide +kernel
theorem dX3_wordOf_53 : decode cX3_wordOf 53 = .ok (.aload_n 0, 1) := by decide +kernel
theorem dX3_wordOf_54 : decode cX3_wordOf 54 = .ok (.getfield 9, 3) := by decide +kernel
theorem dX3_wordOf_57 : decode cX3_wordOf 57 = .ok (.aload_n 0, 1) := by decide +kernel
theorem dX3_wordOf_58 : decode cX3_wordOf 58 = .ok (.getfield 18, 3) := by decide +kernel
theorem dX3_wordOf_61 : decode cX3_wordOf 61 = .ok (.lload_n 1, 1) := by decide +kernel
theorem dX3_wordOf_62 : decode cX3_wordOf 62 = .ok (.lastore, 1) := by decide +kernel
theorem dX3_wordOf_63 : decode cX3_wordOf 63 = .ok (.aload_n 0, 1) := by decide +kernel
theorem dX3_wordOf_64 : decode cX3_wordOf 64 = .ok (.dup, 1) := by decide +kernel
theorem dX3_wordOf_65 : decode cX3_wordOf 65 = .ok (.getfield 18, 3) := by decide +kernel
theorem dX3_wordOf_68 : decode cX3_wordOf 68 = .ok (.iconst 1, 1) := by decide +kernel
theorem dX3_wordOf_69 : decode cX3_wordOf 69 = .ok (.iadd, 1) := by decide +kernel
theorem dX3_wordOf_70 : decode cX3_wordOf 70 = .ok (.putfield 18, 3) := by decide +kernel
theorem dX3_wordOf_73 : decode cX3_wordOf 73 = .ok (.ldc2_w 50, 3) := by decide +kernel
theorem dX3_wordOf_76 : decode cX3_wordOf 76 = .ok (.aload_n 0, 1) := by decide +kernel
theorem dX3_wordOf_77 : decode cX3_wordOf 77 = .ok (.getfield 18, 3) := by decide +kernel
theorem dX3_wordOf_80 : decode cX3_wordOf 80 = .ok (.i2l, 1) := by decide +kernel
theorem dX3_wordOf_81 : decode cX3_wordOf 81 = .ok (.ladd, 1) := by decide +kernel
theorem dX3_wordOf_82 : decode cX3_wordOf 82 = .ok (.lconst 1, 1) := by decide +kernel
theorem dX3_wordOf_83 : decode cX3_wordOf 83 = .ok (.lsub, 1) := by decide +kernel
theorem dX3_wordOf_84 : decode cX3_wordOf 84 = .ok (.lreturn, 1) := by decide +kernel
theorem dX3_spellingOf_0 : decode cX3_spellingOf 0 = .ok (.aload_n 0, 1) := by decide +kernel
theorem dX3_spellingOf_1 : decode cX3_spellingOf 1 = .ok (.lload_n 1, 1) := by decide +kernel
theorem dX3_spellingOf_2 : decode cX3_spellingOf 2 = .ok (.invokevirtual 52, 3) := by decide +kernel
theorem dX3_spellingOf_5 : decode cX3_spellingOf 5 = .ok (.ifCond .eq 17, 3) := by decide +kernel
theorem dX3_spellingOf_8 : decode cX3_spellingOf 8 = .ok (.aload_n 0, 1) := by decide +kernel
theorem dX3_spellingOf_9 : decode cX3_spellingOf 9 = .ok (.getfield 9, 3) := by decide +kernel
theorem dX3_spellingOf_12 : decode cX3_spellingOf 12 = .ok (.lload_n 1, 1) := by decide +kernel
theorem dX3_spellingOf_13 : decode cX3_spellingOf 13 = .ok (.ldc2_w 50, 3) := by decide +kernel
theorem dX3_spellingOf_16 : decode cX3_spellingOf 16 = .ok (.lsub, 1) := by decide +kernel
theorem dX3_spellingOf_17 : decode cX3_spellingOf 17 = .ok (.l2i, 1) := by decide +kernel
theorem dX3_spellingOf_18 : decode cX3_spellingOf 18 = .ok (.laload, 1) := by decide +kernel
theorem dX3_spellingOf_19 : decode cX3_spellingOf 19 = .ok (.goto 4, 3) := by decide +kernel
theorem dX3_spellingOf_22 : decode cX3_spellingOf 22 = .ok (.lconst 0, 1) := by decide +kernel
theorem dX3_spellingOf_23 : decode cX3_spellingOf 23 = .ok (.lreturn, 1) := by decide +kernel
theorem dX3_globalOf_0 : decode cX3_globalOf 0 = .ok (.aload_n 0, 1) := by decide +kernel
theorem dX3_globalOf_1 : decode cX3_globalOf 1 = .ok (.lload_n 1, 1) := by decide +kernel
theorem dX3_globalOf_2 : decode cX3_globalOf 2 = .ok (.invokevirtual 52, 3) := by decide +kernel
theorem dX3_globalOf_5 : decode cX3_globalOf 5 = .ok (.ifCond .eq 17, 3) := by decide +kernel
theorem dX3_globalOf_8 : decode cX3_globalOf 8 = .ok (.aload_n 0, 1) := by decide +kernel
theorem dX3_globalOf_9 : decode cX3_globalOf 9 = .ok (.getfield 15, 3) := by decide +kernel
theorem dX3_globalOf_12 : decode cX3_globalOf 12 = .ok (.lload_n 1, 1) := by decide +kernel
theorem dX3_globalOf_13 : decode cX3_globalOf 13 = .ok (.ldc2_w 50, 3) := by decide +kernel
theorem dX3_globalOf_16 : decode cX3_globalOf 16 = .ok (.lsub, 1) := by decide +kernel
theorem dX3_globalOf_17 : decode cX3_globalOf 17 = .ok (.l2i, 1) := by decide +kernel
theorem dX3_globalOf_18 : decode cX3_globalOf 18 = .ok (.laload, 1) := by decide +kernel
theorem dX3_globalOf_19 : decode cX3_globalOf 19 = .ok (.goto 6, 3) := by decide +kernel
theorem dX3_globalOf_22 : decode cX3_globalOf 22 = .ok (.ldc2_w 26, 3) := by decide +kernel
theorem dX3_globalOf_25 : decode cX3_globalOf 25 = .ok (.lreturn, 1) := by decide +kernel
theorem dX3_makeGlobal_0 : decode cX3_makeGlobal 0 = .ok (.aload_n 0, 1) := by decide +kernel
theorem dX3_makeGlobal_1 : decode cX3_makeGlobal 1 = .ok (.lload_n 1, 1) := by decide +kernel
theorem dX3_makeGlobal_2 : decode cX3_makeGlobal 2 = .ok (.invokevirtual 52, 3) := by decide +kernel
theorem dX3_makeGlobal_5 : decode cX3_makeGlobal 5 = .ok (.ifCond .eq 15, 3) := by decide +kernel
theorem dX3_makeGlobal_8 : decode cX3_makeGlobal 8 = .ok (.aload_n 0, 1) := by decide +kernel
theorem dX3_makeGlobal_9 : decode cX3_makeGlobal 9 = .ok (.getfield 15, 3) := by decide +kernel
theorem dX3_makeGlobal_12 : decode cX3_makeGlobal 12 = .ok (.lload_n 1, 1) := by decide +kernel
theorem dX3_makeGlobal_13 : decode cX3_makeGlobal 13 = .ok (.ldc2_w 50, 3) := by decide +kernel
theorem dX3_makeGlobal_16 : decode cX3_makeGlobal 16 = .ok (.lsub, 1) := by decide +kernel
theorem dX3_makeGlobal_17 : decode cX3_makeGlobal 17 = .ok (.l2i, 1) := by decide +kernel
theorem dX3_makeGlobal_18 : decode cX3_makeGlobal 18 = .ok (.lload_n 3, 1) := by decide +kernel
theorem dX3_makeGlobal_19 : decode cX3_makeGlobal 19 = .ok (.lastore, 1) := by decide +kernel
theorem dX3_makeGlobal_20 : decode cX3_makeGlobal 20 = .ok (.return_, 1) := by decide +kernel
theorem dX3_isKnown_0 : decode cX3_isKnown 0 = .ok (.lload_n 1, 1) := by decide +kernel
theorem dX3_isKnown_1 : decode cX3_isKnown 1 = .ok (.ldc2_w 50, 3) := by decide +kernel
theorem dX3_isKnown_4 : decode cX3_isKnown 4 = .ok (.lcmp, 1) := by decide +kernel
theorem dX3_isKnown_5 : decode cX3_isKnown 5 = .ok (.ifCond .lt 21, 3) := by decide +kernel
theorem dX3_isKnown_8 : decode cX3_isKnown 8 = .ok (.lload_n 1, 1) := by decide +kernel
theorem dX3_isKnown_9 : decode cX3_isKnown 9 = .ok (.ldc2_w 50, 3) := by decide +kernel
theorem dX3_isKnown_12 : decode cX3_isKnown 12 = .ok (.aload_n 0, 1) := by decide +kernel
theorem dX3_isKnown_13 : decode cX3_isKnown 13 = .ok (.getfield 18, 3) := by decide +kernel
theorem dX3_isKnown_16 : decode cX3_isKnown 16 = .ok (.i2l, 1) := by decide +kernel
theorem dX3_isKnown_17 : decode cX3_isKnown 17 = .ok (.ladd, 1) := by decide +kernel
theorem dX3_isKnown_18 : decode cX3_isKnown 18 = .ok (.lcmp, 1) := by decide +kernel
theorem dX3_isKnown_19 : decode cX3_isKnown 19 = .ok (.ifCond .ge 7, 3) := by decide +kernel
theorem dX3_isKnown_22 : decode cX3_isKnown 22 = .ok (.iconst 1, 1) := by decide +kernel
theorem dX3_isKnown_23 : decode cX3_isKnown 23 = .ok (.goto 4, 3) := by decide +kernel
theorem dX3_isKnown_26 : decode cX3_isKnown 26 = .ok (.iconst 0, 1) := by decide +kernel
theorem dX3_isKnown_27 : decode cX3_isKnown 27 = .ok (.ireturn, 1) := by decide +kernel
theorem dX4_init_0 : decode cX4_init 0 = .ok (.aload_n 0, 1) := by decide +kernel
theorem dX4_init_1 : decode cX4_init 1 = .ok (.invokespecial 3, 3) := by decide +kernel
theorem dX4_init_4 : decode cX4_init 4 = .ok (.aload_n 0, 1) := by decide +kernel
theorem dX4_init_5 : decode cX4_init 5 = .ok (.sipush 400, 3) := by decide +kernel
theorem dX4_init_8 : decode cX4_init 8 = .ok (.newarray .char, 2) := by decide +kernel
theorem dX4_init_10 : decode cX4_init 10 = .ok (.putfield 9, 3) := by decide +kernel
theorem dX4_init_13 : decode cX4_init 13 = .ok (.aload_n 0, 1) := by decide +kernel
theorem dX4_init_14 : decode cX4_init 14 = .ok (.sipush 400, 3) := by decide +kernel
theorem dX4_init_17 : decode cX4_init 17 = .ok (.newarray .long, 2) := by decide +kernel
theorem dX4_init_19 : decode cX4_init 19 = .ok (.putfield 15, 3) := by decide +kernel
theorem dX4_init_22 : decode cX4_init 22 = .ok (.aload_n 0, 1) := by decide +kernel
theorem dX4_init_23 : decode cX4_init 23 = .ok (.bipush 12, 2) := by decide +kernel
theorem dX4_init_25 : decode cX4_init 25 = .ok (.newarray .char, 2) := by decide +kernel
theorem dX4_init_27 : decode cX4_init 27 = .ok (.putfield 19, 3) := by decide +kernel
theorem dX4_init_30 : decode cX4_init 30 = .ok (.aload_n 0, 1) := by decide +kernel
theorem dX4_init_31 : decode cX4_init 31 = .ok (.iconst 0, 1) := by decide +kernel
theorem dX4_init_32 : decode cX4_init 32 = .ok (.putfield 22, 3) := by decide +kernel
theorem dX4_init_35 : decode cX4_init 35 = .ok (.aload_n 0, 1) := by decide +kernel
theorem dX4_init_36 : decode cX4_init 36 = .ok (.iconst 0, 1) := by decide +kernel
theorem dX4_init_37 : decode cX4_init 37 = .ok (.putfield 26, 3) := by decide +kernel
theorem dX4_init_40 : decode cX4_init 40 = .ok (.aload_n 0, 1) := by decide +kernel
theorem dX4_init_41 : decode cX4_init 41 = .ok (.aload_n 1, 1) := by decide +kernel
theorem dX4_init_42 : decode cX4_init 42 = .ok (.putfield 29, 3) := by decide +kernel
theorem dX4_init_45 : decode cX4_init 45 = .ok (.aload_n 0, 1) := by decide +kernel
theorem dX4_init_46 : decode cX4_init 46 = .ok (.aload_n 2, 1) := by decide +kernel
theorem dX4_init_47 : decode cX4_init 47 = .ok (.putfield 33, 3) := by decide +kernel
theorem dX4_init_50 : decode cX4_init 50 = .ok (.return_, 1) := by decide +kernel
theorem dX4_print_0 : decode cX4_print 0 = .ok (.aload_n 0, 1) := by decide +kernel
theorem dX4_print_1 : decode cX4_print 1 = .ok (.iconst 0, 1) := by decide +kernel
theorem dX4_print_2 : decode cX4_print 2 = .ok (.putfield 26, 3) := by decide +kernel
theorem dX4_print_5 : decode cX4_print 5 = .ok (.aload_n 0, 1) := by decide +kernel
theorem dX4_print_6 : decode cX4_print 6 = .ok (.iconst 0, 1) := by decide +kernel
theorem dX4_print_7 : decode cX4_print 7 = .ok (.putfield 22, 3) := by decide +kernel
theorem dX4_print_10 : decode cX4_print 10 = .ok (.aload_n 0, 1) := by decide +kernel
theorem dX4_print_11 : decode cX4_print 11 = .ok (.lload_n 1, 1) := by decide +kernel
theorem dX4_print_12 : decode cX4_print 12 = .ok (.invokevirtual 37, 3) := by decide +kernel
theorem dX4_print_15 : decode cX4_print 15 = .ok (.iconst 0, 1) := by decide +kernel
theorem dX4_print_16 : decode cX4_print 16 = .ok (.istore_n 3, 1) := by decide +kernel
theorem dX4_print_17 : decode cX4_print 17 = .ok (.iload_n 3, 1) := by decide +kernel
theorem dX4_print_18 : decode cX4_print 18 = .ok (.sipush 400, 3) := by decide +kernel
theorem dX4_print_21 : decode cX4_print 21 = .ok (.if_icmp .ge 128, 3) := by decide +kernel
theorem dX4_print_24 : decode cX4_print 24 = .ok (.aload_n 0, 1) := by decide +kernel
theorem dX4_print_25 : decode cX4_print 25 = .ok (.getfield 22, 3) := by decide +kernel
theorem dX4_print_28 : decode cX4_print 28 = .ok (.ifCond .le 121, 3) := by decide +kernel
theorem dX4_print_31 : decode cX4_print 31 = .ok (.aload_n 0, 1) := by decide +kernel
theorem dX4_print_32 : decode cX4_print 32 = .ok (.getfield 26, 3) := by decide +kernel
theorem dX4_print_35 : decode cX4_print 35 = .ok (.sipush 400, 3) := by decide +kernel
theorem dX4_print_38 : decode cX4_print 38 = .ok (.if_icmp .ge 111, 3) := by decide +kernel
theorem dX4_print_41 : decode cX4_print 41 = .ok (.aload_n 0, 1) := by decide +kernel
theorem dX4_print_42 : decode cX4_print 42 = .ok (.getfield 15, 3) := by decide +kernel
theorem dX4_print_45 : decode cX4_print 45 = .ok (.aload_n 0, 1) := by decide +kernel
theorem dX4_print_46 : decode cX4_print 46 = .ok (.getfield 22, 3) := by decide +kernel
theorem dX4_print_49 : decode cX4_print 49 = .ok (.iconst 1, 1) := by decide +kernel
theorem dX4_print_50 : decode cX4_print 50 = .ok (.isub, 1) := by decide +kernel
theorem dX4_print_51 : decode cX4_print 51 = .ok (.laload, 1) := by decide +kernel
theorem dX4_print_52 : decode cX4_print 52 = .ok (.lstore 4, 2) := by decide +kernel
theorem dX4_print_54 : decode cX4_print 54 = .ok (.lload 4, 2) := by decide +kernel
theorem dX4_print_56 : decode cX4_print 56 = .ok (.invokestatic 41, 3) := by decide +kernel
theorem dX4_print_59 : decode cX4_print 59 = .ok (.ifCond .eq 68, 3) := by decide +kernel
theorem dX4_print_62 : decode cX4_print 62 = .ok (.aload_n 0, 1) := by decide +kernel
theorem dX4_print_63 : decode cX4_print 63 = .ok (.getfield 15, 3) := by decide +kernel
theorem dX4_print_66 : decode cX4_print 66 = .ok (.aload_n 0, 1) := by decide +kernel
theorem dX4_print_67 : decode cX4_print 67 = .ok (.getfield 22, 3) := by decide +kernel
theorem dX4_print_70 : decode cX4_print 70 = .ok (.iconst 1, 1) := by decide +kernel
theorem dX4_print_71 : decode cX4_print 71 = .ok (.isub, 1) := by decide +kernel
theorem dX4_print_72 : decode cX4_print 72 = .ok (.aload_n 0, 1) := by decide +kernel
theorem dX4_print_73 : decode cX4_print 73 = .ok (.getfield 29, 3) := by decide +kernel
theorem dX4_print_76 : decode cX4_print 76 = .ok (.lload 4, 2) := by decide +kernel
theorem dX4_print_78 : decode cX4_print 78 = .ok (.invokevirtual 47, 3) := by decide +kernel
theorem dX4_print_81 : decode cX4_print 81 = .ok (.lastore, 1) := by decide +kernel
theorem dX4_print_82 : decode cX4_print 82 = .ok (.aload_n 0, 1) := by decide +kernel
theorem dX4_print_83 : decode cX4_print 83 = .ok (.getfield 26, 3) := by decide +kernel
theorem dX4_print_86 : decode cX4_print 86 = .ok (.ifCond .le 25, 3) := by decide +kernel
theorem dX4_print_89 : decode cX4_print 89 = .ok (.aload_n 0, 1) := by decide +kernel
theorem dX4_print_90 : decode cX4_print 90 = .ok (.getfield 9, 3) := by decide +kernel
theorem dX4_print_93 : decode cX4_print 93 = .ok (.aload_n 0, 1) := by decide +kernel
theorem dX4_print_94 : decode cX4_print 94 = .ok (.getfield 26, 3) := by decide +kernel
theorem dX4_print_97 : decode cX4_print 97 = .ok (.iconst 1, 1) := by decide +kernel
theorem dX4_print_98 : decode cX4_print 98 = .ok (.isub, 1) := by decide +kernel
theorem dX4_print_99 : decode cX4_print 99 = .ok (.caload, 1) := by decide +kernel
theorem dX4_print_100 : decode cX4_print 100 = .ok (.bipush 40, 2) := by decide +kernel
theorem dX4_print_102 : decode cX4_print 102 = .ok (.if_icmp .eq 9, 3) := by decide +kernel
theorem dX4_print_105 : decode cX4_print 105 = .ok (.aload_n 0, 1) := by decide +kernel
theorem dX4_print_106 : decode cX4_print 106 = .ok (.bipush 32, 2) := by decide +kernel
theorem dX4_print_108 : decode cX4_print 108 = .ok (.invokevirtual 53, 3) := by decide +kernel
theorem dX4_print_111 : decode cX4_print 111 = .ok (.aload_n 0, 1) := by decide +kernel
theorem dX4_print_112 : decode cX4_print 112 = .ok (.aload_n 0, 1) := by decide +kernel
theorem dX4_print_113 : decode cX4_print 113 = .ok (.getfield 29, 3) := by decide +kernel
theorem dX4_print_116 : decode cX4_print 116 = .ok (.lload 4, 2) := by decide +kernel
theorem dX4_print_118 : decode cX4_print 118 = .ok (.invokevirtual 57, 3) := by decide +kernel
theorem dX4_print_121 : decode cX4_print 121 = .ok (.invokevirtual 37, 3) := by decide +kernel
theorem dX4_print_124 : decode cX4_print 124 = .ok (.goto 19, 3) := by decide +kernel
theorem dX4_print_127 : decode cX4_print 127 = .ok (.aload_n 0, 1) := by decide +kernel
theorem dX4_print_128 : decode cX4_print 128 = .ok (.dup, 1) := by decide +kernel
theorem dX4_print_129 : decode cX4_print 129 = .ok (.getfield 22, 3) := by decide +kernel
theorem dX4_print_132 : decode cX4_print 132 = .ok (.iconst 1, 1) := by decide +kernel
theorem dX4_print_133 : decode cX4_print 133 = .ok (.isub, 1) := by decide +kernel
theorem dX4_print_134 : decode cX4_print 134 = .ok (.putfield 22, 3) := by decide +kernel
theorem dX4_print_137 : decode cX4_print 137 = .ok (.aload_n 0, 1) := by decide +kernel
theorem dX4_print_138 : decode cX4_print 138 = .ok (.lload 4, 2) := by decide +kernel
theorem dX4_print_140 : decode cX4_print 140 = .ok (.invokevirtual 60, 3) := by decide +kernel
theorem dX4_print_143 : decode cX4_print 143 = .ok (.iinc 3 1, 3) := by decide +kernel
theorem dX4_print_146 : decode cX4_print 146 = .ok (.goto (-129), 3) := by decide +kernel
theorem dX4_print_149 : decode cX4_print 149 = .ok (.return_, 1) := by decide +kernel
theorem dX4_printBeginning_0 : decode cX4_printBeginning 0 = .ok (.lload_n 1, 1) := by decide +kernel
theorem dX4_printBeginning_1 : decode cX4_printBeginning 1 = .ok (.invokestatic 41, 3) := by decide +kernel
theorem dX4_printBeginning_4 : decode cX4_printBeginning 4 = .ok (.ifCond .ne 11, 3) := by decide +kernel
theorem dX4_printBeginning_7 : decode cX4_printBeginning 7 = .ok (.aload_n 0, 1) := by decide +kernel
theorem dX4_printBeginning_8 : decode cX4_printBeginning 8 = .ok (.lload_n 1, 1) := by decide +kernel
theorem dX4_printBeginning_9 : decode cX4_printBeginning 9 = .ok (.invokevirtual 63, 3) := by decide +kernel
theorem dX4_printBeginning_12 : decode cX4_printBeginning 12 = .ok (.goto 39, 3) := by decide +kernel
theorem dX4_printBeginning_15 : decode cX4_printBeginning 15 = .ok (.aload_n 0, 1) := by decide +kernel
theorem dX4_printBeginning_16 : decode cX4_printBeginning 16 = .ok (.getfield 22, 3) := by decide +kernel
theorem dX4_printBeginning_19 : decode cX4_printBeginning 19 = .ok (.sipush 400, 3) := by decide +kernel
theorem dX4_printBeginning_22 : decode cX4_printBeginning 22 = .ok (.if_icmp .ge 29, 3) := by decide +kernel
theorem dX4_printBeginning_25 : decode cX4_printBeginning 25 = .ok (.aload_n 0, 1) := by decide +kernel
theorem dX4_printBeginning_26 : decode cX4_printBeginning 26 = .ok (.bipush 40, 2) := by decide +kernel
theorem dX4_printBeginning_28 : decode cX4_printBeginning 28 = .ok (.invokevirtual 53, 3) := by decide +kernel
theorem dX4_printBeginning_31 : decode cX4_printBeginning 31 = .ok (.aload_n 0, 1) := by decide +kernel
theorem dX4_printBeginning_32 : decode cX4_printBeginning 32 = .ok (.getfield 15, 3) := by decide +kernel
theorem dX4_printBeginning_35 : decode cX4_printBeginning 35 = .ok (.aload_n 0, 1) := by decide +kernel
theorem dX4_printBeginning_36 : decode cX4_printBeginning 36 = .ok (.getfield 22, 3) := by decide +kernel
theorem dX4_printBeginning_39 : decode cX4_printBeginning 39 = .ok (.lload_n 1, 1) := by decide +kernel
theorem dX4_printBeginning_40 : decode cX4_printBeginning 40 = .ok (.lastore, 1) := by decide +kernel
theorem dX4_printBeginning_41 : decode cX4_printBeginning 41 = .ok (.aload_n 0, 1) := by decide +kernel
theorem dX4_printBeginning_42 : decode cX4_printBeginning 42 = .ok (.dup, 1) := by decide +kernel
theorem dX4_printBeginning_43 : decode cX4_printBeginning 43 = .ok (.getfield 22, 3) := by decide +kernel
theorem dX4_printBeginning_46 : decode cX4_printBeginning 46 = .ok (.iconst 1, 1) := by decide +kernel
theorem dX4_printBeginning_47 : decode cX4_printBeginning 47 = .ok (.iadd, 1) := by decide +kernel
theorem dX4_printBeginning_48 : decode cX4_printBeginning 48 = .ok (.putfield 22, 3) := by decide +kernel
theorem dX4_printBeginning_51 : decode cX4_printBeginning 51 = .ok (.return_, 1) := by decide +kernel
theorem dX4_printEnd_0 : decode cX4_printEnd 0 = .ok (.lload_n 1, 1) := by decide +kernel
theorem dX4_printEnd_1 : decode cX4_printEnd 1 = .ok (.ldc2_w 66, 3) := by decide +kernel
theorem dX4_printEnd_4 : decode cX4_printEnd 4 = .ok (.lcmp, 1) := by decide +kernel
theorem dX4_printEnd_5 : decode cX4_printEnd 5 = .ok (.ifCond .eq 26, 3) := by decide +kernel
theorem dX4_printEnd_8 : decode cX4_printEnd 8 = .ok (.aload_n 0, 1) := by decide +kernel
theorem dX4_printEnd_9 : decode cX4_printEnd 9 = .ok (.bipush 32, 2) := by decide +kernel
theorem dX4_printEnd_11 : decode cX4_printEnd 11 = .ok (.invokevirtual 53, 3) := by decide +kernel
theorem dX4_printEnd_14 : decode cX4_printEnd 14 = .ok (.aload_n 0, 1) := by decide +kernel
theorem dX4_printEnd_15 : decode cX4_printEnd 15 = .ok (.bipush 46, 2) := by decide +kernel
theorem dX4_printEnd_17 : decode cX4_printEnd 17 = .ok (.invokevirtual 53, 3) := by decide +kernel
theorem dX4_printEnd_20 : decode cX4_printEnd 20 = .ok (.aload_n 0, 1) := by decide +kernel
theorem dX4_printEnd_21 : decode cX4_printEnd 21 = .ok (.bipush 32, 2) := by decide +kernel
theorem dX4_printEnd_23 : decode cX4_printEnd 23 = .ok (.invokevirtual 53, 3) := by decide +kernel
theorem dX4_printEnd_26 : decode cX4_printEnd 26 = .ok (.aload_n 0, 1) := by decide +kernel
theorem dX4_printEnd_27 : decode cX4_printEnd 27 = .ok (.lload_n 1, 1) := by decide +kernel
theorem dX4_printEnd_28 : decode cX4_printEnd 28 = .ok (.invokevirtual 63, 3) := by decide +kernel
theorem dX4_printEnd_31 : decode cX4_printEnd 31 = .ok (.aload_n 0, 1) := by decide +kernel
theorem dX4_printEnd_32 : decode cX4_printEnd 32 = .ok (.bipush 41, 2) := by decide +kernel
theorem dX4_printEnd_34 : decode cX4_printEnd 34 = .ok (.invokevirtual 53, 3) := by decide +kernel
theorem dX4_printEnd_37 : decode cX4_printEnd 37 = .ok (.return_, 1) := by decide +kernel
theorem dX4_printAtom_0 : decode cX4_printAtom 0 = .ok (.lload_n 1, 1) := by decide +kernel
theorem dX4_printAtom_1 : decode cX4_printAtom 1 = .ok (.invokestatic 68, 3) := by decide +kernel
theorem dX4_printAtom_4 : decode cX4_printAtom 4 = .ok (.ifCond .eq 11, 3) := by decide +kernel
theorem dX4_printAtom_7 : decode cX4_printAtom 7 = .ok (.aload_n 0, 1) := by decide +kernel
theorem dX4_printAtom_8 : decode cX4_printAtom 8 = .ok (.lload_n 1, 1) := by decide +kernel
theorem dX4_printAtom_9 : decode cX4_printAtom 9 = .ok (.invokevirtual 71, 3) := by decide +kernel
theorem dX4_printAtom_12 : decode cX4_printAtom 12 = .ok (.goto 15, 3) := by decide +kernel
theorem dX4_printAtom_15 : decode cX4_printAtom 15 = .ok (.aload_n 0, 1) := by decide +kernel
theorem dX4_printAtom_16 : decode cX4_printAtom 16 = .ok (.aload_n 0, 1) := by decide +kernel
theorem dX4_printAtom_17 : decode cX4_printAtom 17 = .ok (.getfield 33, 3) := by decide +kernel
theorem dX4_printAtom_20 : decode cX4_printAtom 20 = .ok (.lload_n 1, 1) := by decide +kernel
theorem dX4_printAtom_21 : decode cX4_printAtom 21 = .ok (.invokevirtual 74, 3) := by decide +kernel
theorem dX4_printAtom_24 : decode cX4_printAtom 24 = .ok (.invokevirtual 79, 3) := by decide +kernel
theorem dX4_printAtom_27 : decode cX4_printAtom 27 = .ok (.return_, 1) := by decide +kernel
theorem dX4_printNumber_0 : decode cX4_printNumber 0 = .ok (.lload_n 1, 1) := by decide +kernel
theorem dX4_printNumber_1 : decode cX4_printNumber 1 = .ok (.lconst 0, 1) := by decide +kernel
theorem dX4_printNumber_2 : decode cX4_printNumber 2 = .ok (.lcmp, 1) := by decide +kernel
theorem dX4_printNumber_3 : decode cX4_printNumber 3 = .ok (.ifCond .ge 9, 3) := by decide +kernel
theorem dX4_printNumber_6 : decode cX4_printNumber 6 = .ok (.aload_n 0, 1) := by decide +kernel
theorem dX4_printNumber_7 : decode cX4_printNumber 7 = .ok (.bipush 45, 2) := by decide +kernel
theorem dX4_printNumber_9 : decode cX4_printNumber 9 = .ok (.invokevirtual 53, 3) := by decide +kernel
theorem dX4_printNumber_12 : decode cX4_printNumber 12 = .ok (.lload_n 1, 1) := by decide +kernel
theorem dX4_printNumber_13 : decode cX4_printNumber 13 = .ok (.invokestatic 82, 3) := by decide +kernel
theorem dX4_printNumber_16 : decode cX4_printNumber 16 = .ok (.lstore_n 3, 1) := by decide +kernel
theorem dX4_printNumber_17 : decode cX4_printNumber 17 = .ok (.iconst 0, 1) := by decide +kernel
theorem dX4_printNumber_18 : decode cX4_printNumber 18 = .ok (.istore 5, 2) := by decide +kernel
theorem dX4_printNumber_20 : decode cX4_printNumber 20 = .ok (.aload_n 0, 1) := by decide +kernel
theorem dX4_printNumber_21 : decode cX4_printNumber 21 = .ok (.getfield 19, 3) := by decide +kernel
theorem dX4_printNumber_24 : decode cX4_printNumber 24 = .ok (.iload 5, 2) := by decide +kernel
theorem dX4_printNumber_26 : decode cX4_printNumber 26 = .ok (.ldc2_w 87, 3) := by decide +kernel
theorem dX4_printNumber_29 : decode cX4_printNumber 29 = .ok (.lload_n 3, 1) := by decide +kernel
theorem dX4_printNumber_30 : decode cX4_printNumber 30 = .ok (.ldc2_w 89, 3) := by decide +kernel
theorem dX4_printNumber_33 : decode cX4_printNumber 33 = .ok (.lrem, 1) := by decide +kernel
theorem dX4_printNumber_34 : decode cX4_printNumber 34 = .ok (.ladd, 1) := by decide +kernel
theorem dX4_printNumber_35 : decode cX4_printNumber 35 = .ok (.l2i, 1) := by decide +kernel
theorem dX4_printNumber_36 : decode cX4_printNumber 36 = .ok (.i2c, 1) := by decide +kernel
theorem dX4_printNumber_37 : decode cX4_printNumber 37 = .ok (.castore, 1) := by decide +kernel
theorem dX4_printNumber_38 : decode cX4_printNumber 38 = .ok (.iinc 5 1, 3) := by decide +kernel
theorem dX4_printNumber_41 : decode cX4_printNumber 41 = .ok (.lload_n 3, 1) := by decide +kernel
theorem dX4_printNumber_42 : decode cX4_printNumber 42 = .ok (.ldc2_w 89, 3) := by decide +kernel
theorem dX4_printNumber_45 : decode cX4_printNumber 45 = .ok (.ldiv, 1) := by decide +kernel
theorem dX4_printNumber_46 : decode cX4_printNumber 46 = .ok (.lstore_n 3, 1) := by decide +kernel
theorem dX4_printNumber_47 : decode cX4_printNumber 47 = .ok (.lload_n 3, 1) := by decide +kernel
theorem dX4_printNumber_48 : decode cX4_printNumber 48 = .ok (.lconst 0, 1) := by decide +kernel
theorem dX4_printNumber_49 : decode cX4_printNumber 49 = .ok (.lcmp, 1) := by decide +kernel
theorem dX4_printNumber_50 : decode cX4_printNumber 50 = .ok (.ifCond .le 10, 3) := by decide +kernel
theorem dX4_printNumber_53 : decode cX4_printNumber 53 = .ok (.iload 5, 2) := by decide +kernel
theorem dX4_printNumber_55 : decode cX4_printNumber 55 = .ok (.bipush 12, 2) := by decide +kernel
theorem dX4_printNumber_57 : decode cX4_printNumber 57 = .ok (.if_icmp .lt (-37), 3) := by decide +kernel
theorem dX4_printNumber_60 : decode cX4_printNumber 60 = .ok (.aload_n 0, 1) := by decide +kernel
theorem dX4_printNumber_61 : decode cX4_printNumber 61 = .ok (.iload 5, 2) := by decide +kernel
theorem dX4_printNumber_63 : decode cX4_printNumber 63 = .ok (.invokevirtual 91, 3) := by decide +kernel
theorem dX4_printNumber_66 : decode cX4_printNumber 66 = .ok (.return_, 1) := by decide +kernel
theorem dX4_printName_0 : decode cX4_printName 0 = .ok (.lload_n 1, 1) := by decide +kernel
theorem dX4_printName_1 : decode cX4_printName 1 = .ok (.lstore_n 3, 1) := by decide +kernel
theorem dX4_printName_2 : decode cX4_printName 2 = .ok (.iconst 0, 1) := by decide +kernel
theorem dX4_printName_3 : decode cX4_printName 3 = .ok (.istore 5, 2) := by decide +kernel
theorem dX4_printName_5 : decode cX4_printName 5 = .ok (.lload_n 3, 1) := by decide +kernel
theorem dX4_printName_6 : decode cX4_printName 6 = .ok (.lconst 0, 1) := by decide +kernel
theorem dX4_printName_7 : decode cX4_printName 7 = .ok (.lcmp, 1) := by decide +kernel
theorem dX4_printName_8 : decode cX4_printName 8 = .ok (.ifCond .le 38, 3) := by decide +kernel
theorem dX4_printName_11 : decode cX4_printName 11 = .ok (.iload 5, 2) := by decide +kernel
theorem dX4_printName_13 : decode cX4_printName 13 = .ok (.bipush 12, 2) := by decide +kernel
theorem dX4_printName_15 : decode cX4_printName 15 = .ok (.if_icmp .ge 31, 3) := by decide +kernel
theorem dX4_printName_18 : decode cX4_printName 18 = .ok (.aload_n 0, 1) := by decide +kernel
theorem dX4_printName_19 : decode cX4_printName 19 = .ok (.getfield 19, 3) := by decide +kernel
theorem dX4_printName_22 : decode cX4_printName 22 = .ok (.iload 5, 2) := by decide +kernel
theorem dX4_printName_24 : decode cX4_printName 24 = .ok (.lload_n 3, 1) := by decide +kernel
theorem dX4_printName_25 : decode cX4_printName 25 = .ok (.ldc2_w 95, 3) := by decide +kernel
theorem dX4_printName_28 : decode cX4_printName 28 = .ok (.lrem, 1) := by decide +kernel
theorem dX4_printName_29 : decode cX4_printName 29 = .ok (.l2i, 1) := by decide +kernel
theorem dX4_printName_30 : decode cX4_printName 30 = .ok (.invokestatic 97, 3) := by decide +kernel
theorem dX4_printName_33 : decode cX4_printName 33 = .ok (.castore, 1) := by decide +kernel
theorem dX4_printName_34 : decode cX4_printName 34 = .ok (.iinc 5 1, 3) := by decide +kernel
theorem dX4_printName_37 : decode cX4_printName 37 = .ok (.lload_n 3, 1) := by decide +kernel
theorem dX4_printName_38 : decode cX4_printName 38 = .ok (.ldc2_w 95, 3) := by decide +kernel
theorem dX4_printName_41 : decode cX4_printName 41 = .ok (.ldiv, 1) := by decide +kernel
theorem dX4_printName_42 : decode cX4_printName 42 = .ok (.lstore_n 3, 1) := by decide +kernel
theorem dX4_printName_43 : decode cX4_printName 43 = .ok (.goto (-38), 3) := by decide +kernel
theorem dX4_printName_46 : decode cX4_printName 46 = .ok (.aload_n 0, 1) := by decide +kernel
theorem dX4_printName_47 : decode cX4_printName 47 = .ok (.iload 5, 2) := by decide +kernel
theorem dX4_printName_49 : decode cX4_printName 49 = .ok (.invokevirtual 91, 3) := by decide +kernel
theorem dX4_printName_52 : decode cX4_printName 52 = .ok (.return_, 1) := by decide +kernel
theorem dX4_putBackwards_0 : decode cX4_putBackwards 0 = .ok (.iload_n 1, 1) := by decide +kernel
theorem dX4_putBackwards_1 : decode cX4_putBackwards 1 = .ok (.iconst 1, 1) := by decide +kernel
theorem dX4_putBackwards_2 : decode cX4_putBackwards 2 = .ok (.isub, 1) := by decide +kernel
theorem dX4_putBackwards_3 : decode cX4_putBackwards 3 = .ok (.istore_n 2, 1) := by decide +kernel
theorem dX4_putBackwards_4 : decode cX4_putBackwards 4 = .ok (.iload_n 2, 1) := by decide +kernel
theorem dX4_putBackwards_5 : decode cX4_putBackwards 5 = .ok (.ifCond .lt 19, 3) := by decide +kernel
theorem dX4_putBackwards_8 : decode cX4_putBackwards 8 = .ok (.aload_n 0, 1) := by decide +kernel
theorem dX4_putBackwards_9 : decode cX4_putBackwards 9 = .ok (.aload_n 0, 1) := by decide +kernel
theorem dX4_putBackwards_10 : decode cX4_putBackwards 10 = .ok (.getfield 19, 3) := by decide +kernel
theorem dX4_putBackwards_13 : decode cX4_putBackwards 13 = .ok (.iload_n 2, 1) := by decide +kernel
theorem dX4_putBackwards_14 : decode cX4_putBackwards 14 = .ok (.caload, 1) := by decide +kernel
theorem dX4_putBackwards_15 : decode cX4_putBackwards 15 = .ok (.invokevirtual 53, 3) := by decide +kernel
theorem dX4_putBackwards_18 : decode cX4_putBackwards 18 = .ok (.iinc 2 (-1), 3) := by decide +kernel
theorem dX4_putBackwards_21 : decode cX4_putBackwards 21 = .ok (.goto (-17), 3) := by decide +kernel
theorem dX4_putBackwards_24 : decode cX4_putBackwards 24 = .ok (.return_, 1) := by decide +kernel
theorem dX4_put_0 : decode cX4_put 0 = .ok (.aload_n 0, 1) := by decide +kernel
theorem dX4_put_1 : decode cX4_put 1 = .ok (.getfield 26, 3) := by decide +kernel
theorem dX4_put_4 : decode cX4_put 4 = .ok (.sipush 400, 3) := by decide +kernel
theorem dX4_put_7 : decode cX4_put 7 = .ok (.if_icmp .ge 23, 3) := by decide +kernel
theorem dX4_put_10 : decode cX4_put 10 = .ok (.aload_n 0, 1) := by decide +kernel
theorem dX4_put_11 : decode cX4_put 11 = .ok (.getfield 9, 3) := by decide +kernel
theorem dX4_put_14 : decode cX4_put 14 = .ok (.aload_n 0, 1) := by decide +kernel
theorem dX4_put_15 : decode cX4_put 15 = .ok (.getfield 26, 3) := by decide +kernel
theorem dX4_put_18 : decode cX4_put 18 = .ok (.iload_n 1, 1) := by decide +kernel
theorem dX4_put_19 : decode cX4_put 19 = .ok (.castore, 1) := by decide +kernel
theorem dX4_put_20 : decode cX4_put 20 = .ok (.aload_n 0, 1) := by decide +kernel
theorem dX4_put_21 : decode cX4_put 21 = .ok (.dup, 1) := by decide +kernel
theorem dX4_put_22 : decode cX4_put 22 = .ok (.getfield 26, 3) := by decide +kernel
theorem dX4_put_25 : decode cX4_put 25 = .ok (.iconst 1, 1) := by decide +kernel
theorem dX4_put_26 : decode cX4_put 26 = .ok (.iadd, 1) := by decide +kernel
theorem dX4_put_27 : decode cX4_put 27 = .ok (.putfield 26, 3) := by decide +kernel
theorem dX4_put_30 : decode cX4_put 30 = .ok (.return_, 1) := by decide +kernel
theorem dX5_init_0 : decode cX5_init 0 = .ok (.aload_n 0, 1) := by decide +kernel
theorem dX5_init_1 : decode cX5_init 1 = .ok (.invokespecial 3, 3) := by decide +kernel
theorem dX5_init_4 : decode cX5_init 4 = .ok (.aload_n 0, 1) := by decide +kernel
theorem dX5_init_5 : decode cX5_init 5 = .ok (.sipush 2000, 3) := by decide +kernel
theorem dX5_init_8 : decode cX5_init 8 = .ok (.newarray .long, 2) := by decide +kernel
theorem dX5_init_10 : decode cX5_init 10 = .ok (.putfield 9, 3) := by decide +kernel
theorem dX5_init_13 : decode cX5_init 13 = .ok (.aload_n 0, 1) := by decide +kernel
theorem dX5_init_14 : decode cX5_init 14 = .ok (.bipush 60, 2) := by decide +kernel
theorem dX5_init_16 : decode cX5_init 16 = .ok (.newarray .int, 2) := by decide +kernel
theorem dX5_init_18 : decode cX5_init 18 = .ok (.putfield 15, 3) := by decide +kernel
theorem dX5_init_21 : decode cX5_init 21 = .ok (.aload_n 0, 1) := by decide +kernel
theorem dX5_init_22 : decode cX5_init 22 = .ok (.bipush 60, 2) := by decide +kernel
theorem dX5_init_24 : decode cX5_init 24 = .ok (.newarray .long, 2) := by decide +kernel
theorem dX5_init_26 : decode cX5_init 26 = .ok (.putfield 19, 3) := by decide +kernel
theorem dX5_init_29 : decode cX5_init 29 = .ok (.aload_n 0, 1) := by decide +kernel
theorem dX5_init_30 : decode cX5_init 30 = .ok (.bipush 60, 2) := by decide +kernel
theorem dX5_init_32 : decode cX5_init 32 = .ok (.newarray .long, 2) := by decide +kernel
theorem dX5_init_34 : decode cX5_init 34 = .ok (.putfield 22, 3) := by decide +kernel
theorem dX5_init_37 : decode cX5_init 37 = .ok (.aload_n 0, 1) := by decide +kernel
theorem dX5_init_38 : decode cX5_init 38 = .ok (.iconst 0, 1) := by decide +kernel
theorem dX5_init_39 : decode cX5_init 39 = .ok (.newarray .long, 2) := by decide +kernel
theorem dX5_init_41 : decode cX5_init 41 = .ok (.putfield 25, 3) := by decide +kernel
theorem dX5_init_44 : decode cX5_init 44 = .ok (.aload_n 0, 1) := by decide +kernel
theorem dX5_init_45 : decode cX5_init 45 = .ok (.iconst 0, 1) := by decide +kernel
theorem dX5_init_46 : decode cX5_init 46 = .ok (.putfield 28, 3) := by decide +kernel
theorem dX5_init_49 : decode cX5_init 49 = .ok (.aload_n 0, 1) := by decide +kernel
theorem dX5_init_50 : decode cX5_init 50 = .ok (.iconst 0, 1) := by decide +kernel
theorem dX5_init_51 : decode cX5_init 51 = .ok (.putfield 32, 3) := by decide +kernel
theorem dX5_init_54 : decode cX5_init 54 = .ok (.aload_n 0, 1) := by decide +kernel
theorem dX5_init_55 : decode cX5_init 55 = .ok (.iconst 0, 1) := by decide +kernel
theorem dX5_init_56 : decode cX5_init 56 = .ok (.putfield 35, 3) := by decide +kernel
theorem dX5_init_59 : decode cX5_init 59 = .ok (.aload_n 0, 1) := by decide +kernel
theorem dX5_init_60 : decode cX5_init 60 = .ok (.iconst 0, 1) := by decide +kernel
theorem dX5_init_61 : decode cX5_init 61 = .ok (.putfield 38, 3) := by decide +kernel
theorem dX5_init_64 : decode cX5_init 64 = .ok (.aload_n 0, 1) := by decide +kernel
theorem dX5_init_65 : decode cX5_init 65 = .ok (.ldc2_w 41, 3) := by decide +kernel
theorem dX5_init_68 : decode cX5_init 68 = .ok (.putfield 43, 3) := by decide +kernel
theorem dX5_init_71 : decode cX5_init 71 = .ok (.aload_n 0, 1) := by decide +kernel
theorem dX5_init_72 : decode cX5_init 72 = .ok (.aload_n 1, 1) := by decide +kernel
theorem dX5_init_73 : decode cX5_init 73 = .ok (.putfield 47, 3) := by decide +kernel
theorem dX5_init_76 : decode cX5_init 76 = .ok (.aload_n 0, 1) := by decide +kernel
theorem dX5_init_77 : decode cX5_init 77 = .ok (.aload_n 2, 1) := by decide +kernel
theorem dX5_init_78 : decode cX5_init 78 = .ok (.putfield 51, 3) := by decide +kernel
theorem dX5_init_81 : decode cX5_init 81 = .ok (.aload_n 0, 1) := by decide +kernel
theorem dX5_init_82 : decode cX5_init 82 = .ok (.aload_n 3, 1) := by decide +kernel
theorem dX5_init_83 : decode cX5_init 83 = .ok (.putfield 55, 3) := by decide +kernel
theorem dX5_init_86 : decode cX5_init 86 = .ok (.aload_n 0, 1) := by decide +kernel
theorem dX5_init_87 : decode cX5_init 87 = .ok (.aload 4, 2) := by decide +kernel
theorem dX5_init_89 : decode cX5_init 89 = .ok (.putfield 59, 3) := by decide +kernel
theorem dX5_init_92 : decode cX5_init 92 = .ok (.return_, 1) := by decide +kernel
theorem dX5_read_0 : decode cX5_read 0 = .ok (.aload_n 0, 1) := by decide +kernel
theorem dX5_read_1 : decode cX5_read 1 = .ok (.getfield 51, 3) := by decide +kernel
theorem dX5_read_4 : decode cX5_read 4 = .ok (.getfield 63, 3) := by decide +kernel
theorem dX5_read_7 : decode cX5_read 7 = .ok (.istore_n 1, 1) := by decide +kernel
theorem dX5_read_8 : decode cX5_read 8 = .ok (.aload_n 0, 1) := by decide +kernel
theorem dX5_read_9 : decode cX5_read 9 = .ok (.getfield 51, 3) := by decide +kernel
theorem dX5_read_12 : decode cX5_read 12 = .ok (.iconst 0, 1) := by decide +kernel
theorem dX5_read_13 : decode cX5_read 13 = .ok (.putfield 68, 3) := by decide +kernel
theorem dX5_read_16 : decode cX5_read 16 = .ok (.aload_n 0, 1) := by decide +kernel
theorem dX5_read_17 : decode cX5_read 17 = .ok (.invokevirtual 72, 3) := by decide +kernel
theorem dX5_read_20 : decode cX5_read 20 = .ok (.ifCond .ne 39, 3) := by decide +kernel
theorem dX5_read_23 : decode cX5_read 23 = .ok (.aload_n 0, 1) := by decide +kernel
theorem dX5_read_24 : decode cX5_read 24 = .ok (.getfield 51, 3) := by decide +kernel
theorem dX5_read_27 : decode cX5_read 27 = .ok (.iload_n 1, 1) := by decide +kernel
theorem dX5_read_28 : decode cX5_read 28 = .ok (.putfield 63, 3) := by decide +kernel
theorem dX5_read_31 : decode cX5_read 31 = .ok (.aload_n 0, 1) := by decide +kernel
theorem dX5_read_32 : decode cX5_read 32 = .ok (.getfield 47, 3) := by decide +kernel
theorem dX5_read_35 : decode cX5_read 35 = .ok (.aload_n 0, 1) := by decide +kernel
theorem dX5_read_36 : decode cX5_read 36 = .ok (.getfield 38, 3) := by decide +kernel
theorem dX5_read_39 : decode cX5_read 39 = .ok (.putfield 76, 3) := by decide +kernel
theorem dX5_read_42 : decode cX5_read 42 = .ok (.aload_n 0, 1) := by decide +kernel
theorem dX5_read_43 : decode cX5_read 43 = .ok (.getfield 47, 3) := by decide +kernel
theorem dX5_read_46 : decode cX5_read 46 = .ok (.aload_n 0, 1) := by decide +kernel
theorem dX5_read_47 : decode cX5_read 47 = .ok (.getfield 47, 3) := by decide +kernel
theorem dX5_read_50 : decode cX5_read 50 = .ok (.getfield 81, 3) := by decide +kernel
theorem dX5_read_53 : decode cX5_read 53 = .ok (.putfield 84, 3) := by decide +kernel
theorem dX5_read_56 : decode cX5_read 56 = .ok (.bipush 10, 2) := by decide +kernel
theorem dX5_read_58 : decode cX5_read 58 = .ok (.ireturn, 1) := by decide +kernel
theorem dX5_read_59 : decode cX5_read 59 = .ok (.aload_n 0, 1) := by decide +kernel
theorem dX5_read_60 : decode cX5_read 60 = .ok (.getfield 47, 3) := by decide +kernel
theorem dX5_read_63 : decode cX5_read 63 = .ok (.aload_n 0, 1) := by decide +kernel
theorem dX5_read_64 : decode cX5_read 64 = .ok (.getfield 38, 3) := by decide +kernel
theorem dX5_read_67 : decode cX5_read 67 = .ok (.putfield 84, 3) := by decide +kernel
theorem dX5_read_70 : decode cX5_read 70 = .ok (.aload_n 0, 1) := by decide +kernel
theorem dX5_read_71 : decode cX5_read 71 = .ok (.getfield 51, 3) := by decide +kernel
theorem dX5_read_74 : decode cX5_read 74 = .ok (.getfield 68, 3) := by decide +kernel
theorem dX5_read_77 : decode cX5_read 77 = .ok (.ifCond .eq 14, 3) := by decide +kernel
theorem dX5_read_80 : decode cX5_read 80 = .ok (.aload_n 0, 1) := by decide +kernel
theorem dX5_read_81 : decode cX5_read 81 = .ok (.getfield 51, 3) := by decide +kernel
theorem dX5_read_84 : decode cX5_read 84 = .ok (.iload_n 1, 1) := by decide +kernel
theorem dX5_read_85 : decode cX5_read 85 = .ok (.putfield 63, 3) := by decide +kernel
theorem dX5_read_88 : decode cX5_read 88 = .ok (.bipush 9, 2) := by decide +kernel
theorem dX5_read_90 : decode cX5_read 90 = .ok (.ireturn, 1) := by decide +kernel
theorem dX5_read_91 : decode cX5_read 91 = .ok (.aload_n 0, 1) := by decide +kernel
theorem dX5_read_92 : decode cX5_read 92 = .ok (.getfield 59, 3) := by decide +kernel
theorem dX5_read_95 : decode cX5_read 95 = .ok (.aload_n 0, 1) := by decide +kernel
theorem dX5_read_96 : decode cX5_read 96 = .ok (.getfield 35, 3) := by decide +kernel
theorem dX5_read_99 : decode cX5_read 99 = .ok (.aload_n 0, 1) := by decide +kernel
theorem dX5_read_100 : decode cX5_read 100 = .ok (.getfield 25, 3) := by decide +kernel
theorem dX5_read_103 : decode cX5_read 103 = .ok (.iconst 0, 1) := by decide +kernel
theorem dX5_read_104 : decode cX5_read 104 = .ok (.ldc2_w 41, 3) := by decide +kernel
theorem dX5_read_107 : decode cX5_read 107 = .ok (.ldc2_w 41, 3) := by decide +kernel
theorem dX5_read_110 : decode cX5_read 110 = .ok (.invokevirtual 87, 3) := by decide +kernel
theorem dX5_read_113 : decode cX5_read 113 = .ok (.ifCond .ne 6, 3) := by decide +kernel
theorem dX5_read_116 : decode cX5_read 116 = .ok (.bipush 6, 2) := by decide +kernel
theorem dX5_read_118 : decode cX5_read 118 = .ok (.ireturn, 1) := by decide +kernel
theorem dX5_read_119 : decode cX5_read 119 = .ok (.aload_n 0, 1) := by decide +kernel
theorem dX5_read_120 : decode cX5_read 120 = .ok (.invokevirtual 93, 3) := by decide +kernel
theorem dX5_read_123 : decode cX5_read 123 = .ok (.iconst 0, 1) := by decide +kernel
theorem dX5_read_124 : decode cX5_read 124 = .ok (.ireturn, 1) := by decide +kernel
theorem dX5_scan_0 : decode cX5_scan 0 = .ok (.aload_n 0, 1) := by decide +kernel
theorem dX5_scan_1 : decode cX5_scan 1 = .ok (.iconst 0, 1) := by decide +kernel
theorem dX5_scan_2 : decode cX5_scan 2 = .ok (.putfield 28, 3) := by decide +kernel
theorem dX5_scan_5 : decode cX5_scan 5 = .ok (.aload_n 0, 1) := by decide +kernel
theorem dX5_scan_6 : decode cX5_scan 6 = .ok (.iconst 0, 1) := by decide +kernel
theorem dX5_scan_7 : decode cX5_scan 7 = .ok (.putfield 32, 3) := by decide +kernel
theorem dX5_scan_10 : decode cX5_scan 10 = .ok (.aload_n 0, 1) := by decide +kernel
theorem dX5_scan_11 : decode cX5_scan 11 = .ok (.iconst 0, 1) := by decide +kernel
theorem dX5_scan_12 : decode cX5_scan 12 = .ok (.putfield 35, 3) := by decide +kernel
theorem dX5_scan_15 : decode cX5_scan 15 = .ok (.aload_n 0, 1) := by decide +kernel
theorem dX5_scan_16 : decode cX5_scan 16 = .ok (.aload_n 0, 1) := by decide +kernel
theorem dX5_scan_17 : decode cX5_scan 17 = .ok (.getfield 47, 3) := by decide +kernel
theorem dX5_scan_20 : decode cX5_scan 20 = .ok (.getfield 84, 3) := by decide +kernel
theorem dX5_scan_23 : decode cX5_scan 23 = .ok (.putfield 38, 3) := by decide +kernel
theorem dX5_scan_26 : decode cX5_scan 26 = .ok (.iconst 0, 1) := by decide +kernel
theorem dX5_scan_27 : decode cX5_scan 27 = .ok (.istore_n 1, 1) := by decide +kernel
theorem dX5_scan_28 : decode cX5_scan 28 = .ok (.iload_n 1, 1) := by decide +kernel
theorem dX5_scan_29 : decode cX5_scan 29 = .ok (.sipush 2000, 3) := by decide +kernel
theorem dX5_scan_32 : decode cX5_scan 32 = .ok (.if_icmp .ge 53, 3) := by decide +kernel
theorem dX5_scan_35 : decode cX5_scan 35 = .ok (.aload_n 0, 1) := by decide +kernel
theorem dX5_scan_36 : decode cX5_scan 36 = .ok (.aload_n 0, 1) := by decide +kernel
theorem dX5_scan_37 : decode cX5_scan 37 = .ok (.getfield 47, 3) := by decide +kernel
theorem dX5_scan_40 : decode cX5_scan 40 = .ok (.aload_n 0, 1) := by decide +kernel
theorem dX5_scan_41 : decode cX5_scan 41 = .ok (.getfield 38, 3) := by decide +kernel
theorem dX5_scan_44 : decode cX5_scan 44 = .ok (.invokevirtual 96, 3) := by decide +kernel
theorem dX5_scan_47 : decode cX5_scan 47 = .ok (.putfield 38, 3) := by decide +kernel
theorem dX5_scan_50 : decode cX5_scan 50 = .ok (.aload_n 0, 1) := by decide +kernel
theorem dX5_scan_51 : decode cX5_scan 51 = .ok (.aload_n 0, 1) := by decide +kernel
theorem dX5_scan_52 : decode cX5_scan 52 = .ok (.getfield 47, 3) := by decide +kernel
theorem dX5_scan_55 : decode cX5_scan 55 = .ok (.aload_n 0, 1) := by decide +kernel
theorem dX5_scan_56 : decode cX5_scan 56 = .ok (.getfield 38, 3) := by decide +kernel
theorem dX5_scan_59 : decode cX5_scan 59 = .ok (.invokevirtual 100, 3) := by decide +kernel
theorem dX5_scan_62 : decode cX5_scan 62 = .ok (.invokevirtual 102, 3) := by decide +kernel
theorem dX5_scan_65 : decode cX5_scan 65 = .ok (.ifCond .ne 5, 3) := by decide +kernel
theorem dX5_scan_68 : decode cX5_scan 68 = .ok (.iconst 0, 1) := by decide +kernel
theorem dX5_scan_69 : decode cX5_scan 69 = .ok (.ireturn, 1) := by decide +kernel
theorem dX5_scan_70 : decode cX5_scan 70 = .ok (.aload_n 0, 1) := by decide +kernel
theorem dX5_scan_71 : decode cX5_scan 71 = .ok (.getfield 32, 3) := by decide +kernel
theorem dX5_scan_74 : decode cX5_scan 74 = .ok (.ifCond .ne 5, 3) := by decide +kernel
theorem dX5_scan_77 : decode cX5_scan 77 = .ok (.iconst 1, 1) := by decide +kernel
theorem dX5_scan_78 : decode cX5_scan 78 = .ok (.ireturn, 1) := by decide +kernel
theorem dX5_scan_79 : decode cX5_scan 79 = .ok (.iinc 1 1, 3) := by decide +kernel
theorem dX5_scan_82 : decode cX5_scan 82 = .ok (.goto (-54), 3) := by decide +kernel
theorem dX5_scan_85 : decode cX5_scan 85 = .ok (.iconst 0, 1) := by decide +kernel
theorem dX5_scan_86 : decode cX5_scan 86 = .ok (.ireturn, 1) := by decide +kernel
theorem dX5_takeToken_0 : decode cX5_takeToken 0 = .ok (.iload_n 1, 1) := by decide +kernel
theorem dX5_takeToken_1 : decode cX5_takeToken 1 = .ok (.bipush 41, 2) := by decide +kernel
theorem dX5_takeToken_3 : decode cX5_takeToken 3 = .ok (.if_icmp .ne 8, 3) := by decide +kernel
theorem dX5_takeToken_6 : decode cX5_takeToken 6 = .ok (.aload_n 0, 1) := by decide +kernel
theorem dX5_takeToken_7 : decode cX5_takeToken 7 = .ok (.invokevirtual 106, 3) := by decide +kernel
theorem dX5_takeToken_10 : decode cX5_takeToken 10 = .ok (.ireturn, 1) := by decide +kernel
theorem dX5_takeToken_11 : decode cX5_takeToken 11 = .ok (.iload_n 1, 1) := by decide +kernel
theorem dX5_takeToken_12 : decode cX5_takeToken 12 = .ok (.bipush 46, 2) := by decide +kernel
theorem dX5_takeToken_14 : decode cX5_takeToken 14 = .ok (.if_icmp .ne 8, 3) := by decide +kernel
theorem dX5_takeToken_17 : decode cX5_takeToken 17 = .ok (.aload_n 0, 1) := by decide +kernel
theorem dX5_takeToken_18 : decode cX5_takeToken 18 = .ok (.invokevirtual 109, 3) := by decide +kernel
theorem dX5_takeToken_21 : decode cX5_takeToken 21 = .ok (.ireturn, 1) := by decide +kernel
theorem dX5_takeToken_22 : decode cX5_takeToken 22 = .ok (.aload_n 0, 1) := by decide +kernel
theorem dX5_takeToken_23 : decode cX5_takeToken 23 = .ok (.invokevirtual 112, 3) := by decide +kernel
theorem dX5_takeToken_26 : decode cX5_takeToken 26 = .ok (.iconst 3, 1) := by decide +kernel
theorem dX5_takeToken_27 : decode cX5_takeToken 27 = .ok (.if_icmp .ne 5, 3) := by decide +kernel
theorem dX5_takeToken_30 : decode cX5_takeToken 30 = .ok (.iconst 0, 1) := by decide +kernel
theorem dX5_takeToken_31 : decode cX5_takeToken 31 = .ok (.ireturn, 1) := by decide +kernel
theorem dX5_takeToken_32 : decode cX5_takeToken 32 = .ok (.iload_n 1, 1) := by decide +kernel
theorem dX5_takeToken_33 : decode cX5_takeToken 33 = .ok (.bipush 40, 2) := by decide +kernel
theorem dX5_takeToken_35 : decode cX5_takeToken 35 = .ok (.if_icmp .ne 8, 3) := by decide +kernel
theorem dX5_takeToken_38 : decode cX5_takeToken 38 = .ok (.aload_n 0, 1) := by decide +kernel
theorem dX5_takeToken_39 : decode cX5_takeToken 39 = .ok (.invokevirtual 116, 3) := by decide +kernel
theorem dX5_takeToken_42 : decode cX5_takeToken 42 = .ok (.ireturn, 1) := by decide +kernel
theorem dX5_takeToken_43 : decode cX5_takeToken 43 = .ok (.iload_n 1, 1) := by decide +kernel
theorem dX5_takeToken_44 : decode cX5_takeToken 44 = .ok (.bipush 45, 2) := by decide +kernel
theorem dX5_takeToken_46 : decode cX5_takeToken 46 = .ok (.if_icmp .eq 10, 3) := by decide +kernel
theorem dX5_takeToken_49 : decode cX5_takeToken 49 = .ok (.iload_n 1, 1) := by decide +kernel
theorem dX5_takeToken_50 : decode cX5_takeToken 50 = .ok (.invokestatic 119, 3) := by decide +kernel
theorem dX5_takeToken_53 : decode cX5_takeToken 53 = .ok (.ifCond .eq 19, 3) := by decide +kernel
theorem dX5_takeToken_56 : decode cX5_takeToken 56 = .ok (.aload_n 0, 1) := by decide +kernel
theorem dX5_takeToken_57 : decode cX5_takeToken 57 = .ok (.iload_n 1, 1) := by decide +kernel
theorem dX5_takeToken_58 : decode cX5_takeToken 58 = .ok (.bipush 45, 2) := by decide +kernel
theorem dX5_takeToken_60 : decode cX5_takeToken 60 = .ok (.if_icmp .ne 7, 3) := by decide +kernel
theorem dX5_takeToken_63 : decode cX5_takeToken 63 = .ok (.iconst 1, 1) := by decide +kernel
theorem dX5_takeToken_64 : decode cX5_takeToken 64 = .ok (.goto 4, 3) := by decide +kernel
theorem dX5_takeToken_67 : decode cX5_takeToken 67 = .ok (.iconst 0, 1) := by decide +kernel
theorem dX5_takeToken_68 : decode cX5_takeToken 68 = .ok (.invokevirtual 122, 3) := by decide +kernel
theorem dX5_takeToken_71 : decode cX5_takeToken 71 = .ok (.ireturn, 1) := by decide +kernel
theorem dX5_takeToken_72 : decode cX5_takeToken 72 = .ok (.iload_n 1, 1) := by decide +kernel
theorem dX5_takeToken_73 : decode cX5_takeToken 73 = .ok (.invokestatic 126, 3) := by decide +kernel
theorem dX5_takeToken_76 : decode cX5_takeToken 76 = .ok (.ifCond .le 14, 3) := by decide +kernel
theorem dX5_takeToken_79 : decode cX5_takeToken 79 = .ok (.aload_n 0, 1) := by decide +kernel
theorem dX5_takeToken_80 : decode cX5_takeToken 80 = .ok (.invokevirtual 129, 3) := by decide +kernel
theorem dX5_takeToken_83 : decode cX5_takeToken 83 = .ok (.ifCond .eq 7, 3) := by decide +kernel
theorem dX5_takeToken_86 : decode cX5_takeToken 86 = .ok (.iconst 1, 1) := by decide +kernel
theorem dX5_takeToken_87 : decode cX5_takeToken 87 = .ok (.goto 4, 3) := by decide +kernel
theorem dX5_takeToken_90 : decode cX5_takeToken 90 = .ok (.iconst 0, 1) := by decide +kernel
theorem dX5_takeToken_91 : decode cX5_takeToken 91 = .ok (.ireturn, 1) := by decide +kernel
theorem dX5_isDigit_0 : decode cX5_isDigit 0 = .ok (.iload_n 0, 1) := by decide +kernel
theorem dX5_isDigit_1 : decode cX5_isDigit 1 = .ok (.bipush 48, 2) := by decide +kernel
theorem dX5_isDigit_3 : decode cX5_isDigit 3 = .ok (.if_icmp .lt 13, 3) := by decide +kernel
theorem dX5_isDigit_6 : decode cX5_isDigit 6 = .ok (.iload_n 0, 1) := by decide +kernel
theorem dX5_isDigit_7 : decode cX5_isDigit 7 = .ok (.bipush 57, 2) := by decide +kernel
theorem dX5_isDigit_9 : decode cX5_isDigit 9 = .ok (.if_icmp .gt 7, 3) := by decide +kernel
theorem dX5_isDigit_12 : decode cX5_isDigit 12 = .ok (.iconst 1, 1) := by decide +kernel
theorem dX5_isDigit_13 : decode cX5_isDigit 13 = .ok (.goto 4, 3) := by decide +kernel
theorem dX5_isDigit_16 : decode cX5_isDigit 16 = .ok (.iconst 0, 1) := by decide +kernel
theorem dX5_isDigit_17 : decode cX5_isDigit 17 = .ok (.ireturn, 1) := by decide +kernel
theorem dX5_state_0 : decode cX5_state 0 = .ok (.aload_n 0, 1) := by decide +kernel
theorem dX5_state_1 : decode cX5_state 1 = .ok (.getfield 32, 3) := by decide +kernel
theorem dX5_state_4 : decode cX5_state 4 = .ok (.ifCond .le 17, 3) := by decide +kernel
theorem dX5_state_7 : decode cX5_state 7 = .ok (.aload_n 0, 1) := by decide +kernel
theorem dX5_state_8 : decode cX5_state 8 = .ok (.getfield 15, 3) := by decide +kernel
theorem dX5_state_11 : decode cX5_state 11 = .ok (.aload_n 0, 1) := by decide +kernel
theorem dX5_state_12 : decode cX5_state 12 = .ok (.getfield 32, 3) := by decide +kernel
theorem dX5_state_15 : decode cX5_state 15 = .ok (.iconst 1, 1) := by decide +kernel
theorem dX5_state_16 : decode cX5_state 16 = .ok (.isub, 1) := by decide +kernel
theorem dX5_state_17 : decode cX5_state 17 = .ok (.iaload, 1) := by decide +kernel
theorem dX5_state_18 : decode cX5_state 18 = .ok (.goto 4, 3) := by decide +kernel
theorem dX5_state_21 : decode cX5_state 21 = .ok (.iconst 0, 1) := by decide +kernel
theorem dX5_state_22 : decode cX5_state 22 = .ok (.ireturn, 1) := by decide +kernel
theorem dX5_takeOpen_0 : decode cX5_takeOpen 0 = .ok (.aload_n 0, 1) := by decide +kernel
theorem dX5_takeOpen_1 : decode cX5_takeOpen 1 = .ok (.getfield 32, 3) := by decide +kernel
theorem dX5_takeOpen_4 : decode cX5_takeOpen 4 = .ok (.bipush 60, 2) := by decide +kernel
theorem dX5_takeOpen_6 : decode cX5_takeOpen 6 = .ok (.if_icmp .lt 5, 3) := by decide +kernel
theorem dX5_takeOpen_9 : decode cX5_takeOpen 9 = .ok (.iconst 0, 1) := by decide +kernel
theorem dX5_takeOpen_10 : decode cX5_takeOpen 10 = .ok (.ireturn, 1) := by decide +kernel
theorem dX5_takeOpen_11 : decode cX5_takeOpen 11 = .ok (.aload_n 0, 1) := by decide +kernel
theorem dX5_takeOpen_12 : decode cX5_takeOpen 12 = .ok (.getfield 15, 3) := by decide +kernel
theorem dX5_takeOpen_15 : decode cX5_takeOpen 15 = .ok (.aload_n 0, 1) := by decide +kernel
theorem dX5_takeOpen_16 : decode cX5_takeOpen 16 = .ok (.getfield 32, 3) := by decide +kernel
theorem dX5_takeOpen_19 : decode cX5_takeOpen 19 = .ok (.iconst 0, 1) := by decide +kernel
theorem dX5_takeOpen_20 : decode cX5_takeOpen 20 = .ok (.iastore, 1) := by decide +kernel
theorem dX5_takeOpen_21 : decode cX5_takeOpen 21 = .ok (.aload_n 0, 1) := by decide +kernel
theorem dX5_takeOpen_22 : decode cX5_takeOpen 22 = .ok (.dup, 1) := by decide +kernel
theorem dX5_takeOpen_23 : decode cX5_takeOpen 23 = .ok (.getfield 32, 3) := by decide +kernel
theorem dX5_takeOpen_26 : decode cX5_takeOpen 26 = .ok (.iconst 1, 1) := by decide +kernel
theorem dX5_takeOpen_27 : decode cX5_takeOpen 27 = .ok (.iadd, 1) := by decide +kernel
theorem dX5_takeOpen_28 : decode cX5_takeOpen 28 = .ok (.putfield 32, 3) := by decide +kernel
theorem dX5_takeOpen_31 : decode cX5_takeOpen 31 = .ok (.aload_n 0, 1) := by decide +kernel
theorem dX5_takeOpen_32 : decode cX5_takeOpen 32 = .ok (.dup, 1) := by decide +kernel
theorem dX5_takeOpen_33 : decode cX5_takeOpen 33 = .ok (.getfield 38, 3) := by decide +kernel
theorem dX5_takeOpen_36 : decode cX5_takeOpen 36 = .ok (.iconst 1, 1) := by decide +kernel
theorem dX5_takeOpen_37 : decode cX5_takeOpen 37 = .ok (.iadd, 1) := by decide +kernel
theorem dX5_takeOpen_38 : decode cX5_takeOpen 38 = .ok (.putfield 38, 3) := by decide +kernel
theorem dX5_takeOpen_41 : decode cX5_takeOpen 41 = .ok (.aload_n 0, 1) := by decide +kernel
theorem dX5_takeOpen_42 : decode cX5_takeOpen 42 = .ok (.ldc2_w 132, 3) := by decide +kernel
theorem dX5_takeOpen_45 : decode cX5_takeOpen 45 = .ok (.invokevirtual 134, 3) := by decide +kernel
theorem dX5_takeOpen_48 : decode cX5_takeOpen 48 = .ok (.ireturn, 1) := by decide +kernel
theorem dX5_takeClose_0 : decode cX5_takeClose 0 = .ok (.aload_n 0, 1) := by decide +kernel
theorem dX5_takeClose_1 : decode cX5_takeClose 1 = .ok (.getfield 32, 3) := by decide +kernel
theorem dX5_takeClose_4 : decode cX5_takeClose 4 = .ok (.ifCond .eq 11, 3) := by decide +kernel
theorem dX5_takeClose_7 : decode cX5_takeClose 7 = .ok (.aload_n 0, 1) := by decide +kernel
theorem dX5_takeClose_8 : decode cX5_takeClose 8 = .ok (.invokevirtual 112, 3) := by decide +kernel
theorem dX5_takeClose_11 : decode cX5_takeClose 11 = .ok (.iconst 2, 1) := by decide +kernel
theorem dX5_takeClose_12 : decode cX5_takeClose 12 = .ok (.if_icmp .ne 5, 3) := by decide +kernel
theorem dX5_takeClose_15 : decode cX5_takeClose 15 = .ok (.iconst 0, 1) := by decide +kernel
theorem dX5_takeClose_16 : decode cX5_takeClose 16 = .ok (.ireturn, 1) := by decide +kernel
theorem dX5_takeClose_17 : decode cX5_takeClose 17 = .ok (.aload_n 0, 1) := by decide +kernel
theorem dX5_takeClose_18 : decode cX5_takeClose 18 = .ok (.dup, 1) := by decide +kernel
theorem dX5_takeClose_19 : decode cX5_takeClose 19 = .ok (.getfield 32, 3) := by decide +kernel
theorem dX5_takeClose_22 : decode cX5_takeClose 22 = .ok (.iconst 1, 1) := by decide +kernel
theorem dX5_takeClose_23 : decode cX5_takeClose 23 = .ok (.isub, 1) := by decide +kernel
theorem dX5_takeClose_24 : decode cX5_takeClose 24 = .ok (.putfield 32, 3) := by decide +kernel
theorem dX5_takeClose_27 : decode cX5_takeClose 27 = .ok (.aload_n 0, 1) := by decide +kernel
theorem dX5_takeClose_28 : decode cX5_takeClose 28 = .ok (.dup, 1) := by decide +kernel
theorem dX5_takeClose_29 : decode cX5_takeClose 29 = .ok (.getfield 38, 3) := by decide +kernel
theorem dX5_takeClose_32 : decode cX5_takeClose 32 = .ok (.iconst 1, 1) := by decide +kernel
theorem dX5_takeClose_33 : decode cX5_takeClose 33 = .ok (.iadd, 1) := by decide +kernel
theorem dX5_takeClose_34 : decode cX5_takeClose 34 = .ok (.putfield 38, 3) := by decide +kernel
theorem dX5_takeClose_37 : decode cX5_takeClose 37 = .ok (.aload_n 0, 1) := by decide +kernel
theorem dX5_takeClose_38 : decode cX5_takeClose 38 = .ok (.invokevirtual 138, 3) := by decide +kernel
theorem dX5_takeClose_41 : decode cX5_takeClose 41 = .ok (.aload_n 0, 1) := by decide +kernel
theorem dX5_takeClose_42 : decode cX5_takeClose 42 = .ok (.ldc2_w 141, 3) := by decide +kernel
theorem dX5_takeClose_45 : decode cX5_takeClose 45 = .ok (.invokevirtual 134, 3) := by decide +kernel
theorem dX5_takeClose_48 : decode cX5_takeClose 48 = .ok (.ireturn, 1) := by decide +kernel
theorem dX5_takeDot_0 : decode cX5_takeDot 0 = .ok (.aload_n 0, 1) := by decide +kernel
theorem dX5_takeDot_1 : decode cX5_takeDot 1 = .ok (.getfield 32, 3) := by decide +kernel
theorem dX5_takeDot_4 : decode cX5_takeDot 4 = .ok (.ifCond .eq 11, 3) := by decide +kernel
theorem dX5_takeDot_7 : decode cX5_takeDot 7 = .ok (.aload_n 0, 1) := by decide +kernel
theorem dX5_takeDot_8 : decode cX5_takeDot 8 = .ok (.invokevirtual 112, 3) := by decide +kernel
theorem dX5_takeDot_11 : decode cX5_takeDot 11 = .ok (.iconst 1, 1) := by decide +kernel
theorem dX5_takeDot_12 : decode cX5_takeDot 12 = .ok (.if_icmp .eq 5, 3) := by decide +kernel
theorem dX5_takeDot_15 : decode cX5_takeDot 15 = .ok (.iconst 0, 1) := by decide +kernel
theorem dX5_takeDot_16 : decode cX5_takeDot 16 = .ok (.ireturn, 1) := by decide +kernel
theorem dX5_takeDot_17 : decode cX5_takeDot 17 = .ok (.aload_n 0, 1) := by decide +kernel
theorem dX5_takeDot_18 : decode cX5_takeDot 18 = .ok (.getfield 15, 3) := by decide +kernel
theorem dX5_takeDot_21 : decode cX5_takeDot 21 = .ok (.aload_n 0, 1) := by decide +kernel
theorem dX5_takeDot_22 : decode cX5_takeDot 22 = .ok (.getfield 32, 3) := by decide +kernel
theorem dX5_takeDot_25 : decode cX5_takeDot 25 = .ok (.iconst 1, 1) := by decide +kernel
theorem dX5_takeDot_26 : decode cX5_takeDot 26 = .ok (.isub, 1) := by decide +kernel
theorem dX5_takeDot_27 : decode cX5_takeDot 27 = .ok (.iconst 2, 1) := by decide +kernel
theorem dX5_takeDot_28 : decode cX5_takeDot 28 = .ok (.iastore, 1) := by decide +kernel
theorem dX5_takeDot_29 : decode cX5_takeDot 29 = .ok (.aload_n 0, 1) := by decide +kernel
theorem dX5_takeDot_30 : decode cX5_takeDot 30 = .ok (.dup, 1) := by decide +kernel
theorem dX5_takeDot_31 : decode cX5_takeDot 31 = .ok (.getfield 38, 3) := by decide +kernel
theorem dX5_takeDot_34 : decode cX5_takeDot 34 = .ok (.iconst 1, 1) := by decide +kernel
theorem dX5_takeDot_35 : decode cX5_takeDot 35 = .ok (.iadd, 1) := by decide +kernel
theorem dX5_takeDot_36 : decode cX5_takeDot 36 = .ok (.putfield 38, 3) := by decide +kernel
theorem dX5_takeDot_39 : decode cX5_takeDot 39 = .ok (.aload_n 0, 1) := by decide +kernel
theorem dX5_takeDot_40 : decode cX5_takeDot 40 = .ok (.ldc2_w 143, 3) := by decide +kernel
theorem dX5_takeDot_43 : decode cX5_takeDot 43 = .ok (.invokevirtual 134, 3) := by decide +kernel
theorem dX5_takeDot_46 : decode cX5_takeDot 46 = .ok (.ireturn, 1) := by decide +kernel
theorem dX5_takeNumber_0 : decode cX5_takeNumber 0 = .ok (.iload_n 1, 1) := by decide +kernel
theorem dX5_takeNumber_1 : decode cX5_takeNumber 1 = .ok (.ifCond .eq 13, 3) := by decide +kernel
theorem dX5_takeNumber_4 : decode cX5_takeNumber 4 = .ok (.aload_n 0, 1) := by decide +kernel
theorem dX5_takeNumber_5 : decode cX5_takeNumber 5 = .ok (.dup, 1) := by decide +kernel
theorem dX5_takeNumber_6 : decode cX5_takeNumber 6 = .ok (.getfield 38, 3) := by decide +kernel
theorem dX5_takeNumber_9 : decode cX5_takeNumber 9 = .ok (.iconst 1, 1) := by decide +kernel
theorem dX5_takeNumber_10 : decode cX5_takeNumber 10 = .ok (.iadd, 1) := by decide +kernel
theorem dX5_takeNumber_11 : decode cX5_takeNumber 11 = .ok (.putfield 38, 3) := by decide +kernel
theorem dX5_takeNumber_14 : decode cX5_takeNumber 14 = .ok (.iconst 0, 1) := by decide +kernel
theorem dX5_takeNumber_15 : decode cX5_takeNumber 15 = .ok (.istore_n 2, 1) := by decide +kernel
theorem dX5_takeNumber_16 : decode cX5_takeNumber 16 = .ok (.iconst 0, 1) := by decide +kernel
theorem dX5_takeNumber_17 : decode cX5_takeNumber 17 = .ok (.istore_n 3, 1) := by decide +kernel
theorem dX5_takeNumber_18 : decode cX5_takeNumber 18 = .ok (.iload_n 2, 1) := by decide +kernel
theorem dX5_takeNumber_19 : decode cX5_takeNumber 19 = .ok (.bipush 9, 2) := by decide +kernel
theorem dX5_takeNumber_21 : decode cX5_takeNumber 21 = .ok (.if_icmp .ge 56, 3) := by decide +kernel
theorem dX5_takeNumber_24 : decode cX5_takeNumber 24 = .ok (.aload_n 0, 1) := by decide +kernel
theorem dX5_takeNumber_25 : decode cX5_takeNumber 25 = .ok (.getfield 47, 3) := by decide +kernel
theorem dX5_takeNumber_28 : decode cX5_takeNumber 28 = .ok (.aload_n 0, 1) := by decide +kernel
theorem dX5_takeNumber_29 : decode cX5_takeNumber 29 = .ok (.getfield 38, 3) := by decide +kernel
theorem dX5_takeNumber_32 : decode cX5_takeNumber 32 = .ok (.invokevirtual 100, 3) := by decide +kernel
theorem dX5_takeNumber_35 : decode cX5_takeNumber 35 = .ok (.invokestatic 119, 3) := by decide +kernel
theorem dX5_takeNumber_38 : decode cX5_takeNumber 38 = .ok (.ifCond .eq 39, 3) := by decide +kernel
theorem dX5_takeNumber_41 : decode cX5_takeNumber 41 = .ok (.iload_n 3, 1) := by decide +kernel
theorem dX5_takeNumber_42 : decode cX5_takeNumber 42 = .ok (.bipush 10, 2) := by decide +kernel
theorem dX5_takeNumber_44 : decode cX5_takeNumber 44 = .ok (.imul, 1) := by decide +kernel
theorem dX5_takeNumber_45 : decode cX5_takeNumber 45 = .ok (.aload_n 0, 1) := by decide +kernel
theorem dX5_takeNumber_46 : decode cX5_takeNumber 46 = .ok (.getfield 47, 3) := by decide +kernel
theorem dX5_takeNumber_49 : decode cX5_takeNumber 49 = .ok (.aload_n 0, 1) := by decide +kernel
theorem dX5_takeNumber_50 : decode cX5_takeNumber 50 = .ok (.getfield 38, 3) := by decide +kernel
theorem dX5_takeNumber_53 : decode cX5_takeNumber 53 = .ok (.invokevirtual 100, 3) := by decide +kernel
theorem dX5_takeNumber_56 : decode cX5_takeNumber 56 = .ok (.iadd, 1) := by decide +kernel
theorem dX5_takeNumber_57 : decode cX5_takeNumber 57 = .ok (.bipush 48, 2) := by decide +kernel
theorem dX5_takeNumber_59 : decode cX5_takeNumber 59 = .ok (.isub, 1) := by decide +kernel
theorem dX5_takeNumber_60 : decode cX5_takeNumber 60 = .ok (.istore_n 3, 1) := by decide +kernel
theorem dX5_takeNumber_61 : decode cX5_takeNumber 61 = .ok (.iinc 2 1, 3) := by decide +kernel
theorem dX5_takeNumber_64 : decode cX5_takeNumber 64 = .ok (.aload_n 0, 1) := by decide +kernel
theorem dX5_takeNumber_65 : decode cX5_takeNumber 65 = .ok (.dup, 1) := by decide +kernel
theorem dX5_takeNumber_66 : decode cX5_takeNumber 66 = .ok (.getfield 38, 3) := by decide +kernel
theorem dX5_takeNumber_69 : decode cX5_takeNumber 69 = .ok (.iconst 1, 1) := by decide +kernel
theorem dX5_takeNumber_70 : decode cX5_takeNumber 70 = .ok (.iadd, 1) := by decide +kernel
theorem dX5_takeNumber_71 : decode cX5_takeNumber 71 = .ok (.putfield 38, 3) := by decide +kernel
theorem dX5_takeNumber_74 : decode cX5_takeNumber 74 = .ok (.goto (-56), 3) := by decide +kernel
theorem dX5_takeNumber_77 : decode cX5_takeNumber 77 = .ok (.iload_n 2, 1) := by decide +kernel
theorem dX5_takeNumber_78 : decode cX5_takeNumber 78 = .ok (.ifCond .eq 20, 3) := by decide +kernel
theorem dX5_takeNumber_81 : decode cX5_takeNumber 81 = .ok (.aload_n 0, 1) := by decide +kernel
theorem dX5_takeNumber_82 : decode cX5_takeNumber 82 = .ok (.getfield 47, 3) := by decide +kernel
theorem dX5_takeNumber_85 : decode cX5_takeNumber 85 = .ok (.aload_n 0, 1) := by decide +kernel
theorem dX5_takeNumber_86 : decode cX5_takeNumber 86 = .ok (.getfield 38, 3) := by decide +kernel
theorem dX5_takeNumber_89 : decode cX5_takeNumber 89 = .ok (.invokevirtual 100, 3) := by decide +kernel
theorem dX5_takeNumber_92 : decode cX5_takeNumber 92 = .ok (.invokestatic 119, 3) := by decide +kernel
theorem dX5_takeNumber_95 : decode cX5_takeNumber 95 = .ok (.ifCond .eq 5, 3) := by decide +kernel
theorem dX5_takeNumber_98 : decode cX5_takeNumber 98 = .ok (.iconst 0, 1) := by decide +kernel
theorem dX5_takeNumber_99 : decode cX5_takeNumber 99 = .ok (.ireturn, 1) := by decide +kernel
theorem dX5_takeNumber_100 : decode cX5_takeNumber 100 = .ok (.aload_n 0, 1) := by decide +kernel
theorem dX5_takeNumber_101 : decode cX5_takeNumber 101 = .ok (.invokevirtual 138, 3) := by decide +kernel
theorem dX5_takeNumber_104 : decode cX5_takeNumber 104 = .ok (.aload_n 0, 1) := by decide +kernel
theorem dX5_takeNumber_105 : decode cX5_takeNumber 105 = .ok (.iload_n 1, 1) := by decide +kernel
theorem dX5_takeNumber_106 : decode cX5_takeNumber 106 = .ok (.ifCond .eq 9, 3) := by decide +kernel
theorem dX5_takeNumber_109 : decode cX5_takeNumber 109 = .ok (.iload_n 3, 1) := by decide +kernel
theorem dX5_takeNumber_110 : decode cX5_takeNumber 110 = .ok (.ineg, 1) := by decide +kernel
theorem dX5_takeNumber_111 : decode cX5_takeNumber 111 = .ok (.i2l, 1) := by decide +kernel
theorem dX5_takeNumber_112 : decode cX5_takeNumber 112 = .ok (.goto 5, 3) := by decide +kernel
theorem dX5_takeNumber_115 : decode cX5_takeNumber 115 = .ok (.iload_n 3, 1) := by decide +kernel
theorem dX5_takeNumber_116 : decode cX5_takeNumber 116 = .ok (.i2l, 1) := by decide +kernel
theorem dX5_takeNumber_117 : decode cX5_takeNumber 117 = .ok (.invokevirtual 134, 3) := by decide +kernel
theorem dX5_takeNumber_120 : decode cX5_takeNumber 120 = .ok (.ireturn, 1) := by decide +kernel
theorem dX5_takeName_0 : decode cX5_takeName 0 = .ok (.iconst 0, 1) := by decide +kernel
theorem dX5_takeName_1 : decode cX5_takeName 1 = .ok (.istore_n 1, 1) := by decide +kernel
theorem dX5_takeName_2 : decode cX5_takeName 2 = .ok (.lconst 0, 1) := by decide +kernel
theorem dX5_takeName_3 : decode cX5_takeName 3 = .ok (.lstore_n 2, 1) := by decide +kernel
theorem dX5_takeName_4 : decode cX5_takeName 4 = .ok (.iload_n 1, 1) := by decide +kernel
theorem dX5_takeName_5 : decode cX5_takeName 5 = .ok (.bipush 12, 2) := by decide +kernel
theorem dX5_takeName_7 : decode cX5_takeName 7 = .ok (.if_icmp .ge 58, 3) := by decide +kernel
theorem dX5_takeName_10 : decode cX5_takeName 10 = .ok (.aload_n 0, 1) := by decide +kernel
theorem dX5_takeName_11 : decode cX5_takeName 11 = .ok (.getfield 47, 3) := by decide +kernel
theorem dX5_takeName_14 : decode cX5_takeName 14 = .ok (.aload_n 0, 1) := by decide +kernel
theorem dX5_takeName_15 : decode cX5_takeName 15 = .ok (.getfield 38, 3) := by decide +kernel
theorem dX5_takeName_18 : decode cX5_takeName 18 = .ok (.invokevirtual 100, 3) := by decide +kernel
theorem dX5_takeName_21 : decode cX5_takeName 21 = .ok (.invokestatic 126, 3) := by decide +kernel
theorem dX5_takeName_24 : decode cX5_takeName 24 = .ok (.ifCond .le 41, 3) := by decide +kernel
theorem dX5_takeName_27 : decode cX5_takeName 27 = .ok (.lload_n 2, 1) := by decide +kernel
theorem dX5_takeName_28 : decode cX5_takeName 28 = .ok (.ldc2_w 145, 3) := by decide +kernel
theorem dX5_takeName_31 : decode cX5_takeName 31 = .ok (.lmul, 1) := by decide +kernel
theorem dX5_takeName_32 : decode cX5_takeName 32 = .ok (.aload_n 0, 1) := by decide +kernel
theorem dX5_takeName_33 : decode cX5_takeName 33 = .ok (.getfield 47, 3) := by decide +kernel
theorem dX5_takeName_36 : decode cX5_takeName 36 = .ok (.aload_n 0, 1) := by decide +kernel
theorem dX5_takeName_37 : decode cX5_takeName 37 = .ok (.getfield 38, 3) := by decide +kernel
theorem dX5_takeName_40 : decode cX5_takeName 40 = .ok (.invokevirtual 100, 3) := by decide +kernel
theorem dX5_takeName_43 : decode cX5_takeName 43 = .ok (.invokestatic 126, 3) := by decide +kernel
theorem dX5_takeName_46 : decode cX5_takeName 46 = .ok (.i2l, 1) := by decide +kernel
theorem dX5_takeName_47 : decode cX5_takeName 47 = .ok (.ladd, 1) := by decide +kernel
theorem dX5_takeName_48 : decode cX5_takeName 48 = .ok (.lstore_n 2, 1) := by decide +kernel
theorem dX5_takeName_49 : decode cX5_takeName 49 = .ok (.iinc 1 1, 3) := by decide +kernel
theorem dX5_takeName_52 : decode cX5_takeName 52 = .ok (.aload_n 0, 1) := by decide +kernel
theorem dX5_takeName_53 : decode cX5_takeName 53 = .ok (.dup, 1) := by decide +kernel
theorem dX5_takeName_54 : decode cX5_takeName 54 = .ok (.getfield 38, 3) := by decide +kernel
theorem dX5_takeName_57 : decode cX5_takeName 57 = .ok (.iconst 1, 1) := by decide +kernel
theorem dX5_takeName_58 : decode cX5_takeName 58 = .ok (.iadd, 1) := by decide +kernel
theorem dX5_takeName_59 : decode cX5_takeName 59 = .ok (.putfield 38, 3) := by decide +kernel
theorem dX5_takeName_62 : decode cX5_takeName 62 = .ok (.goto (-58), 3) := by decide +kernel
theorem dX5_takeName_65 : decode cX5_takeName 65 = .ok (.aload_n 0, 1) := by decide +kernel
theorem dX5_takeName_66 : decode cX5_takeName 66 = .ok (.getfield 47, 3) := by decide +kernel
theorem dX5_takeName_69 : decode cX5_takeName 69 = .ok (.aload_n 0, 1) := by decide +kernel
theorem dX5_takeName_70 : decode cX5_takeName 70 = .ok (.getfield 38, 3) := by decide +kernel
theorem dX5_takeName_73 : decode cX5_takeName 73 = .ok (.invokevirtual 100, 3) := by decide +kernel
theorem dX5_takeName_76 : decode cX5_takeName 76 = .ok (.invokestatic 126, 3) := by decide +kernel
theorem dX5_takeName_79 : decode cX5_takeName 79 = .ok (.ifCond .le 5, 3) := by decide +kernel
theorem dX5_takeName_82 : decode cX5_takeName 82 = .ok (.iconst 0, 1) := by decide +kernel
theorem dX5_takeName_83 : decode cX5_takeName 83 = .ok (.ireturn, 1) := by decide +kernel
theorem dX5_takeName_84 : decode cX5_takeName 84 = .ok (.aload_n 0, 1) := by decide +kernel
theorem dX5_takeName_85 : decode cX5_takeName 85 = .ok (.invokevirtual 138, 3) := by decide +kernel
theorem dX5_takeName_88 : decode cX5_takeName 88 = .ok (.aload_n 0, 1) := by decide +kernel
theorem dX5_takeName_89 : decode cX5_takeName 89 = .ok (.aload_n 0, 1) := by decide +kernel
theorem dX5_takeName_90 : decode cX5_takeName 90 = .ok (.getfield 51, 3) := by decide +kernel
theorem dX5_takeName_93 : decode cX5_takeName 93 = .ok (.lload_n 2, 1) := by decide +kernel
theorem dX5_takeName_94 : decode cX5_takeName 94 = .ok (.invokevirtual 147, 3) := by decide +kernel
theorem dX5_takeName_97 : decode cX5_takeName 97 = .ok (.invokevirtual 134, 3) := by decide +kernel
theorem dX5_takeName_100 : decode cX5_takeName 100 = .ok (.ireturn, 1) := by decide +kernel
theorem dX5_noteExpression_0 : decode cX5_noteExpression 0 = .ok (.aload_n 0, 1) := by decide +kernel
theorem dX5_noteExpression_1 : decode cX5_noteExpression 1 = .ok (.getfield 32, 3) := by decide +kernel
theorem dX5_noteExpression_4 : decode cX5_noteExpression 4 = .ok (.ifCond .ne 4, 3) := by decide +kernel
theorem dX5_noteExpression_7 : decode cX5_noteExpression 7 = .ok (.return_, 1) := by decide +kernel
theorem dX5_noteExpression_8 : decode cX5_noteExpression 8 = .ok (.aload_n 0, 1) := by decide +kernel
theorem dX5_noteExpression_9 : decode cX5_noteExpression 9 = .ok (.invokevirtual 112, 3) := by decide +kernel
theorem dX5_noteExpression_12 : decode cX5_noteExpression 12 = .ok (.iconst 2, 1) := by decide +kernel
theorem dX5_noteExpression_13 : decode cX5_noteExpression 13 = .ok (.if_icmp .ne 18, 3) := by decide +kernel
theorem dX5_noteExpression_16 : decode cX5_noteExpression 16 = .ok (.aload_n 0, 1) := by decide +kernel
theorem dX5_noteExpression_17 : decode cX5_noteExpression 17 = .ok (.getfield 15, 3) := by decide +kernel
theorem dX5_noteExpression_20 : decode cX5_noteExpression 20 = .ok (.aload_n 0, 1) := by decide +kernel
theorem dX5_noteExpression_21 : decode cX5_noteExpression 21 = .ok (.getfield 32, 3) := by decide +kernel
theorem dX5_noteExpression_24 : decode cX5_noteExpression 24 = .ok (.iconst 1, 1) := by decide +kernel
theorem dX5_noteExpression_25 : decode cX5_noteExpression 25 = .ok (.isub, 1) := by decide +kernel
theorem dX5_noteExpression_26 : decode cX5_noteExpression 26 = .ok (.iconst 3, 1) := by decide +kernel
theorem dX5_noteExpression_27 : decode cX5_noteExpression 27 = .ok (.iastore, 1) := by decide +kernel
theorem dX5_noteExpression_28 : decode cX5_noteExpression 28 = .ok (.goto 25, 3) := by decide +kernel
theorem dX5_noteExpression_31 : decode cX5_noteExpression 31 = .ok (.aload_n 0, 1) := by decide +kernel
theorem dX5_noteExpression_32 : decode cX5_noteExpression 32 = .ok (.getfield 15, 3) := by decide +kernel
theorem dX5_noteExpression_35 : decode cX5_noteExpression 35 = .ok (.aload_n 0, 1) := by decide +kernel
theorem dX5_noteExpression_36 : decode cX5_noteExpression 36 = .ok (.getfield 32, 3) := by decide +kernel
theorem dX5_noteExpression_39 : decode cX5_noteExpression 39 = .ok (.iconst 1, 1) := by decide +kernel
theorem dX5_noteExpression_40 : decode cX5_noteExpression 40 = .ok (.isub, 1) := by decide +kernel
theorem dX5_noteExpression_41 : decode cX5_noteExpression 41 = .ok (.iconst 1, 1) := by decide +kernel
theorem dX5_noteExpression_42 : decode cX5_noteExpression 42 = .ok (.iastore, 1) := by decide +kernel
theorem dX5_noteExpression_43 : decode cX5_noteExpression 43 = .ok (.aload_n 0, 1) := by decide +kernel
theorem dX5_noteExpression_44 : decode cX5_noteExpression 44 = .ok (.dup, 1) := by decide +kernel
theorem dX5_noteExpression_45 : decode cX5_noteExpression 45 = .ok (.getfield 35, 3) := by decide +kernel
theorem dX5_noteExpression_48 : decode cX5_noteExpression 48 = .ok (.iconst 1, 1) := by decide +kernel
theorem dX5_noteExpression_49 : decode cX5_noteExpression 49 = .ok (.iadd, 1) := by decide +kernel
theorem dX5_noteExpression_50 : decode cX5_noteExpression 50 = .ok (.putfield 35, 3) := by decide +kernel
theorem dX5_noteExpression_53 : decode cX5_noteExpression 53 = .ok (.return_, 1) := by decide +kernel
theorem dX5_keep_0 : decode cX5_keep 0 = .ok (.aload_n 0, 1) := by decide +kernel
theorem dX5_keep_1 : decode cX5_keep 1 = .ok (.getfield 28, 3) := by decide +kernel
theorem dX5_keep_4 : decode cX5_keep 4 = .ok (.sipush 2000, 3) := by decide +kernel
theorem dX5_keep_7 : decode cX5_keep 7 = .ok (.if_icmp .lt 5, 3) := by decide +kernel
theorem dX5_keep_10 : decode cX5_keep 10 = .ok (.iconst 0, 1) := by decide +kernel
theorem dX5_keep_11 : decode cX5_keep 11 = .ok (.ireturn, 1) := by decide +kernel
theorem dX5_keep_12 : decode cX5_keep 12 = .ok (.aload_n 0, 1) := by decide +kernel
theorem dX5_keep_13 : decode cX5_keep 13 = .ok (.getfield 9, 3) := by decide +kernel
theorem dX5_keep_16 : decode cX5_keep 16 = .ok (.aload_n 0, 1) := by decide +kernel
theorem dX5_keep_17 : decode cX5_keep 17 = .ok (.getfield 28, 3) := by decide +kernel
theorem dX5_keep_20 : decode cX5_keep 20 = .ok (.lload_n 1, 1) := by decide +kernel
theorem dX5_keep_21 : decode cX5_keep 21 = .ok (.lastore, 1) := by decide +kernel
theorem dX5_keep_22 : decode cX5_keep 22 = .ok (.aload_n 0, 1) := by decide +kernel
theorem dX5_keep_23 : decode cX5_keep 23 = .ok (.dup, 1) := by decide +kernel
theorem dX5_keep_24 : decode cX5_keep 24 = .ok (.getfield 28, 3) := by decide +kernel
theorem dX5_keep_27 : decode cX5_keep 27 = .ok (.iconst 1, 1) := by decide +kernel
theorem dX5_keep_28 : decode cX5_keep 28 = .ok (.iadd, 1) := by decide +kernel
theorem dX5_keep_29 : decode cX5_keep 29 = .ok (.putfield 28, 3) := by decide +kernel
theorem dX5_keep_32 : decode cX5_keep 32 = .ok (.iconst 1, 1) := by decide +kernel
theorem dX5_keep_33 : decode cX5_keep 33 = .ok (.ireturn, 1) := by decide +kernel
theorem dX5_build_0 : decode cX5_build 0 = .ok (.aload_n 0, 1) := by decide +kernel
theorem dX5_build_1 : decode cX5_build 1 = .ok (.iconst 0, 1) := by decide +kernel
theorem dX5_build_2 : decode cX5_build 2 = .ok (.putfield 32, 3) := by decide +kernel
theorem dX5_build_5 : decode cX5_build 5 = .ok (.iconst 0, 1) := by decide +kernel
theorem dX5_build_6 : decode cX5_build 6 = .ok (.istore_n 1, 1) := by decide +kernel
theorem dX5_build_7 : decode cX5_build 7 = .ok (.iload_n 1, 1) := by decide +kernel
theorem dX5_build_8 : decode cX5_build 8 = .ok (.aload_n 0, 1) := by decide +kernel
theorem dX5_build_9 : decode cX5_build 9 = .ok (.getfield 28, 3) := by decide +kernel
theorem dX5_build_12 : decode cX5_build 12 = .ok (.if_icmp .ge 66, 3) := by decide +kernel
theorem dX5_build_15 : decode cX5_build 15 = .ok (.aload_n 0, 1) := by decide +kernel
theorem dX5_build_16 : decode cX5_build 16 = .ok (.getfield 9, 3) := by decide +kernel
theorem dX5_build_19 : decode cX5_build 19 = .ok (.iload_n 1, 1) := by decide +kernel
theorem dX5_build_20 : decode cX5_build 20 = .ok (.laload, 1) := by decide +kernel
theorem dX5_build_21 : decode cX5_build 21 = .ok (.lstore_n 2, 1) := by decide +kernel
theorem dX5_build_22 : decode cX5_build 22 = .ok (.lload_n 2, 1) := by decide +kernel
theorem dX5_build_23 : decode cX5_build 23 = .ok (.ldc2_w 132, 3) := by decide +kernel
theorem dX5_build_26 : decode cX5_build 26 = .ok (.lcmp, 1) := by decide +kernel
theorem dX5_build_27 : decode cX5_build 27 = .ok (.ifCond .ne 10, 3) := by decide +kernel
theorem dX5_build_30 : decode cX5_build 30 = .ok (.aload_n 0, 1) := by decide +kernel
theorem dX5_build_31 : decode cX5_build 31 = .ok (.invokevirtual 151, 3) := by decide +kernel
theorem dX5_build_34 : decode cX5_build 34 = .ok (.goto 38, 3) := by decide +kernel
theorem dX5_build_37 : decode cX5_build 37 = .ok (.lload_n 2, 1) := by decide +kernel
theorem dX5_build_38 : decode cX5_build 38 = .ok (.ldc2_w 143, 3) := by decide +kernel
theorem dX5_build_41 : decode cX5_build 41 = .ok (.lcmp, 1) := by decide +kernel
theorem dX5_build_42 : decode cX5_build 42 = .ok (.ifCond .ne 10, 3) := by decide +kernel
theorem dX5_build_45 : decode cX5_build 45 = .ok (.aload_n 0, 1) := by decide +kernel
theorem dX5_build_46 : decode cX5_build 46 = .ok (.invokevirtual 154, 3) := by decide +kernel
theorem dX5_build_49 : decode cX5_build 49 = .ok (.goto 23, 3) := by decide +kernel
theorem dX5_build_52 : decode cX5_build 52 = .ok (.lload_n 2, 1) := by decide +kernel
theorem dX5_build_53 : decode cX5_build 53 = .ok (.ldc2_w 141, 3) := by decide +kernel
theorem dX5_build_56 : decode cX5_build 56 = .ok (.lcmp, 1) := by decide +kernel
theorem dX5_build_57 : decode cX5_build 57 = .ok (.ifCond .ne 10, 3) := by decide +kernel
theorem dX5_build_60 : decode cX5_build 60 = .ok (.aload_n 0, 1) := by decide +kernel
theorem dX5_build_61 : decode cX5_build 61 = .ok (.invokevirtual 157, 3) := by decide +kernel
theorem dX5_build_64 : decode cX5_build 64 = .ok (.goto 8, 3) := by decide +kernel
theorem dX5_build_67 : decode cX5_build 67 = .ok (.aload_n 0, 1) := by decide +kernel
theorem dX5_build_68 : decode cX5_build 68 = .ok (.lload_n 2, 1) := by decide +kernel
theorem dX5_build_69 : decode cX5_build 69 = .ok (.invokevirtual 160, 3) := by decide +kernel
theorem dX5_build_72 : decode cX5_build 72 = .ok (.iinc 1 1, 3) := by decide +kernel
theorem dX5_build_75 : decode cX5_build 75 = .ok (.goto (-68), 3) := by decide +kernel
theorem dX5_build_78 : decode cX5_build 78 = .ok (.return_, 1) := by decide +kernel
theorem dX5_openList_0 : decode cX5_openList 0 = .ok (.aload_n 0, 1) := by decide +kernel
theorem dX5_openList_1 : decode cX5_openList 1 = .ok (.getfield 32, 3) := by decide +kernel
theorem dX5_openList_4 : decode cX5_openList 4 = .ok (.bipush 60, 2) := by decide +kernel
theorem dX5_openList_6 : decode cX5_openList 6 = .ok (.if_icmp .ge 47, 3) := by decide +kernel
theorem dX5_openList_9 : decode cX5_openList 9 = .ok (.aload_n 0, 1) := by decide +kernel
theorem dX5_openList_10 : decode cX5_openList 10 = .ok (.getfield 19, 3) := by decide +kernel
theorem dX5_openList_13 : decode cX5_openList 13 = .ok (.aload_n 0, 1) := by decide +kernel
theorem dX5_openList_14 : decode cX5_openList 14 = .ok (.getfield 32, 3) := by decide +kernel
theorem dX5_openList_17 : decode cX5_openList 17 = .ok (.ldc2_w 41, 3) := by decide +kernel
theorem dX5_openList_20 : decode cX5_openList 20 = .ok (.lastore, 1) := by decide +kernel
theorem dX5_openList_21 : decode cX5_openList 21 = .ok (.aload_n 0, 1) := by decide +kernel
theorem dX5_openList_22 : decode cX5_openList 22 = .ok (.getfield 22, 3) := by decide +kernel
theorem dX5_openList_25 : decode cX5_openList 25 = .ok (.aload_n 0, 1) := by decide +kernel
theorem dX5_openList_26 : decode cX5_openList 26 = .ok (.getfield 32, 3) := by decide +kernel
theorem dX5_openList_29 : decode cX5_openList 29 = .ok (.ldc2_w 41, 3) := by decide +kernel
theorem dX5_openList_32 : decode cX5_openList 32 = .ok (.lastore, 1) := by decide +kernel
theorem dX5_openList_33 : decode cX5_openList 33 = .ok (.aload_n 0, 1) := by decide +kernel
theorem dX5_openList_34 : decode cX5_openList 34 = .ok (.getfield 15, 3) := by decide +kernel
theorem dX5_openList_37 : decode cX5_openList 37 = .ok (.aload_n 0, 1) := by decide +kernel
theorem dX5_openList_38 : decode cX5_openList 38 = .ok (.getfield 32, 3) := by decide +kernel
theorem dX5_openList_41 : decode cX5_openList 41 = .ok (.iconst 0, 1) := by decide +kernel
theorem dX5_openList_42 : decode cX5_openList 42 = .ok (.iastore, 1) := by decide +kernel
theorem dX5_openList_43 : decode cX5_openList 43 = .ok (.aload_n 0, 1) := by decide +kernel
theorem dX5_openList_44 : decode cX5_openList 44 = .ok (.dup, 1) := by decide +kernel
theorem dX5_openList_45 : decode cX5_openList 45 = .ok (.getfield 32, 3) := by decide +kernel
theorem dX5_openList_48 : decode cX5_openList 48 = .ok (.iconst 1, 1) := by decide +kernel
theorem dX5_openList_49 : decode cX5_openList 49 = .ok (.iadd, 1) := by decide +kernel
theorem dX5_openList_50 : decode cX5_openList 50 = .ok (.putfield 32, 3) := by decide +kernel
theorem dX5_openList_53 : decode cX5_openList 53 = .ok (.return_, 1) := by decide +kernel
theorem dX5_markDot_0 : decode cX5_markDot 0 = .ok (.aload_n 0, 1) := by decide +kernel
theorem dX5_markDot_1 : decode cX5_markDot 1 = .ok (.getfield 32, 3) := by decide +kernel
theorem dX5_markDot_4 : decode cX5_markDot 4 = .ok (.ifCond .le 15, 3) := by decide +kernel
theorem dX5_markDot_7 : decode cX5_markDot 7 = .ok (.aload_n 0, 1) := by decide +kernel
theorem dX5_markDot_8 : decode cX5_markDot 8 = .ok (.getfield 15, 3) := by decide +kernel
theorem dX5_markDot_11 : decode cX5_markDot 11 = .ok (.aload_n 0, 1) := by decide +kernel
theorem dX5_markDot_12 : decode cX5_markDot 12 = .ok (.getfield 32, 3) := by decide +kernel
theorem dX5_markDot_15 : decode cX5_markDot 15 = .ok (.iconst 1, 1) := by decide +kernel
theorem dX5_markDot_16 : decode cX5_markDot 16 = .ok (.isub, 1) := by decide +kernel
theorem dX5_markDot_17 : decode cX5_markDot 17 = .ok (.iconst 2, 1) := by decide +kernel
theorem dX5_markDot_18 : decode cX5_markDot 18 = .ok (.iastore, 1) := by decide +kernel
theorem dX5_markDot_19 : decode cX5_markDot 19 = .ok (.return_, 1) := by decide +kernel
theorem dX5_closeList_0 : decode cX5_closeList 0 = .ok (.aload_n 0, 1) := by decide +kernel
theorem dX5_closeList_1 : decode cX5_closeList 1 = .ok (.getfield 32, 3) := by decide +kernel
theorem dX5_closeList_4 : decode cX5_closeList 4 = .ok (.ifCond .le 26, 3) := by decide +kernel
theorem dX5_closeList_7 : decode cX5_closeList 7 = .ok (.aload_n 0, 1) := by decide +kernel
theorem dX5_closeList_8 : decode cX5_closeList 8 = .ok (.dup, 1) := by decide +kernel
theorem dX5_closeList_9 : decode cX5_closeList 9 = .ok (.getfield 32, 3) := by decide +kernel
theorem dX5_closeList_12 : decode cX5_closeList 12 = .ok (.iconst 1, 1) := by decide +kernel
theorem dX5_closeList_13 : decode cX5_closeList 13 = .ok (.isub, 1) := by decide +kernel
theorem dX5_closeList_14 : decode cX5_closeList 14 = .ok (.putfield 32, 3) := by decide +kernel
theorem dX5_closeList_17 : decode cX5_closeList 17 = .ok (.aload_n 0, 1) := by decide +kernel
theorem dX5_closeList_18 : decode cX5_closeList 18 = .ok (.aload_n 0, 1) := by decide +kernel
theorem dX5_closeList_19 : decode cX5_closeList 19 = .ok (.getfield 19, 3) := by decide +kernel
theorem dX5_closeList_22 : decode cX5_closeList 22 = .ok (.aload_n 0, 1) := by decide +kernel
theorem dX5_closeList_23 : decode cX5_closeList 23 = .ok (.getfield 32, 3) := by decide +kernel
theorem dX5_closeList_26 : decode cX5_closeList 26 = .ok (.laload, 1) := by decide +kernel
theorem dX5_closeList_27 : decode cX5_closeList 27 = .ok (.invokevirtual 160, 3) := by decide +kernel
theorem dX5_closeList_30 : decode cX5_closeList 30 = .ok (.return_, 1) := by decide +kernel
theorem dX5_attach_0 : decode cX5_attach 0 = .ok (.aload_n 0, 1) := by decide +kernel
theorem dX5_attach_1 : decode cX5_attach 1 = .ok (.getfield 32, 3) := by decide +kernel
theorem dX5_attach_4 : decode cX5_attach 4 = .ok (.ifCond .ne 9, 3) := by decide +kernel
theorem dX5_attach_7 : decode cX5_attach 7 = .ok (.aload_n 0, 1) := by decide +kernel
theorem dX5_attach_8 : decode cX5_attach 8 = .ok (.lload_n 1, 1) := by decide +kernel
theorem dX5_attach_9 : decode cX5_attach 9 = .ok (.putfield 43, 3) := by decide +kernel
theorem dX5_attach_12 : decode cX5_attach 12 = .ok (.return_, 1) := by decide +kernel
theorem dX5_attach_13 : decode cX5_attach 13 = .ok (.aload_n 0, 1) := by decide +kernel
theorem dX5_attach_14 : decode cX5_attach 14 = .ok (.getfield 32, 3) := by decide +kernel
theorem dX5_attach_17 : decode cX5_attach 17 = .ok (.iconst 1, 1) := by decide +kernel
theorem dX5_attach_18 : decode cX5_attach 18 = .ok (.isub, 1) := by decide +kernel
theorem dX5_attach_19 : decode cX5_attach 19 = .ok (.istore_n 3, 1) := by decide +kernel
theorem dX5_attach_20 : decode cX5_attach 20 = .ok (.aload_n 0, 1) := by decide +kernel
theorem dX5_attach_21 : decode cX5_attach 21 = .ok (.getfield 15, 3) := by decide +kernel
theorem dX5_attach_24 : decode cX5_attach 24 = .ok (.iload_n 3, 1) := by decide +kernel
theorem dX5_attach_25 : decode cX5_attach 25 = .ok (.iaload, 1) := by decide +kernel
theorem dX5_attach_26 : decode cX5_attach 26 = .ok (.iconst 2, 1) := by decide +kernel
theorem dX5_attach_27 : decode cX5_attach 27 = .ok (.if_icmp .ne 18, 3) := by decide +kernel
theorem dX5_attach_30 : decode cX5_attach 30 = .ok (.aload_n 0, 1) := by decide +kernel
theorem dX5_attach_31 : decode cX5_attach 31 = .ok (.getfield 55, 3) := by decide +kernel
theorem dX5_attach_34 : decode cX5_attach 34 = .ok (.aload_n 0, 1) := by decide +kernel
theorem dX5_attach_35 : decode cX5_attach 35 = .ok (.getfield 22, 3) := by decide +kernel
theorem dX5_attach_38 : decode cX5_attach 38 = .ok (.iload_n 3, 1) := by decide +kernel
theorem dX5_attach_39 : decode cX5_attach 39 = .ok (.laload, 1) := by decide +kernel
theorem dX5_attach_40 : decode cX5_attach 40 = .ok (.lload_n 1, 1) := by decide +kernel
theorem dX5_attach_41 : decode cX5_attach 41 = .ok (.invokevirtual 164, 3) := by decide +kernel
theorem dX5_attach_44 : decode cX5_attach 44 = .ok (.return_, 1) := by decide +kernel
theorem dX5_attach_45 : decode cX5_attach 45 = .ok (.aload_n 0, 1) := by decide +kernel
theorem dX5_attach_46 : decode cX5_attach 46 = .ok (.getfield 55, 3) := by decide +kernel
theorem dX5_attach_49 : decode cX5_attach 49 = .ok (.lload_n 1, 1) := by decide +kernel
theorem dX5_attach_50 : decode cX5_attach 50 = .ok (.ldc2_w 41, 3) := by decide +kernel
theorem dX5_attach_53 : decode cX5_attach 53 = .ok (.invokevirtual 170, 3) := by decide +kernel
theorem dX5_attach_56 : decode cX5_attach 56 = .ok (.lstore 4, 2) := by decide +kernel
theorem dX5_attach_58 : decode cX5_attach 58 = .ok (.aload_n 0, 1) := by decide +kernel
theorem dX5_attach_59 : decode cX5_attach 59 = .ok (.getfield 15, 3) := by decide +kernel
theorem dX5_attach_62 : decode cX5_attach 62 = .ok (.iload_n 3, 1) := by decide +kernel
theorem dX5_attach_63 : decode cX5_attach 63 = .ok (.iaload, 1) := by decide +kernel
theorem dX5_attach_64 : decode cX5_attach 64 = .ok (.ifCond .ne 21, 3) := by decide +kernel
theorem dX5_attach_67 : decode cX5_attach 67 = .ok (.aload_n 0, 1) := by decide +kernel
theorem dX5_attach_68 : decode cX5_attach 68 = .ok (.getfield 19, 3) := by decide +kernel
theorem dX5_attach_71 : decode cX5_attach 71 = .ok (.iload_n 3, 1) := by decide +kernel
theorem dX5_attach_72 : decode cX5_attach 72 = .ok (.lload 4, 2) := by decide +kernel
theorem dX5_attach_74 : decode cX5_attach 74 = .ok (.lastore, 1) := by decide +kernel
theorem dX5_attach_75 : decode cX5_attach 75 = .ok (.aload_n 0, 1) := by decide +kernel
theorem dX5_attach_76 : decode cX5_attach 76 = .ok (.getfield 15, 3) := by decide +kernel
theorem dX5_attach_79 : decode cX5_attach 79 = .ok (.iload_n 3, 1) := by decide +kernel
theorem dX5_attach_80 : decode cX5_attach 80 = .ok (.iconst 1, 1) := by decide +kernel
theorem dX5_attach_81 : decode cX5_attach 81 = .ok (.iastore, 1) := by decide +kernel
theorem dX5_attach_82 : decode cX5_attach 82 = .ok (.goto 18, 3) := by decide +kernel
theorem dX5_attach_85 : decode cX5_attach 85 = .ok (.aload_n 0, 1) := by decide +kernel
theorem dX5_attach_86 : decode cX5_attach 86 = .ok (.getfield 55, 3) := by decide +kernel
theorem dX5_attach_89 : decode cX5_attach 89 = .ok (.aload_n 0, 1) := by decide +kernel
theorem dX5_attach_90 : decode cX5_attach 90 = .ok (.getfield 22, 3) := by decide +kernel
theorem dX5_attach_93 : decode cX5_attach 93 = .ok (.iload_n 3, 1) := by decide +kernel
theorem dX5_attach_94 : decode cX5_attach 94 = .ok (.laload, 1) := by decide +kernel
theorem dX5_attach_95 : decode cX5_attach 95 = .ok (.lload 4, 2) := by decide +kernel
theorem dX5_attach_97 : decode cX5_attach 97 = .ok (.invokevirtual 164, 3) := by decide +kernel
theorem dX5_attach_100 : decode cX5_attach 100 = .ok (.aload_n 0, 1) := by decide +kernel
theorem dX5_attach_101 : decode cX5_attach 101 = .ok (.getfield 22, 3) := by decide +kernel
theorem dX5_attach_104 : decode cX5_attach 104 = .ok (.iload_n 3, 1) := by decide +kernel
theorem dX5_attach_105 : decode cX5_attach 105 = .ok (.lload 4, 2) := by decide +kernel
theorem dX5_attach_107 : decode cX5_attach 107 = .ok (.lastore, 1) := by decide +kernel
theorem dX5_attach_108 : decode cX5_attach 108 = .ok (.return_, 1) := by decide +kernel
theorem dX6_init_0 : decode cX6_init 0 = .ok (.aload_n 0, 1) := by decide +kernel
theorem dX6_init_1 : decode cX6_init 1 = .ok (.invokespecial 3, 3) := by decide +kernel
theorem dX6_init_4 : decode cX6_init 4 = .ok (.aload_n 0, 1) := by decide +kernel
theorem dX6_init_5 : decode cX6_init 5 = .ok (.sipush 2000, 3) := by decide +kernel
theorem dX6_init_8 : decode cX6_init 8 = .ok (.newarray .char, 2) := by decide +kernel
theorem dX6_init_10 : decode cX6_init 10 = .ok (.putfield 9, 3) := by decide +kernel
theorem dX6_init_13 : decode cX6_init 13 = .ok (.aload_n 0, 1) := by decide +kernel
theorem dX6_init_14 : decode cX6_init 14 = .ok (.iconst 0, 1) := by decide +kernel
theorem dX6_init_15 : decode cX6_init 15 = .ok (.putfield 15, 3) := by decide +kernel
theorem dX6_init_18 : decode cX6_init 18 = .ok (.aload_n 0, 1) := by decide +kernel
theorem dX6_init_19 : decode cX6_init 19 = .ok (.iconst 0, 1) := by decide +kernel
theorem dX6_init_20 : decode cX6_init 20 = .ok (.putfield 19, 3) := by decide +kernel
theorem dX6_init_23 : decode cX6_init 23 = .ok (.aload_n 0, 1) := by decide +kernel
theorem dX6_init_24 : decode cX6_init 24 = .ok (.iconst (-1), 1) := by decide +kernel
theorem dX6_init_25 : decode cX6_init 25 = .ok (.putfield 22, 3) := by decide +kernel
theorem dX6_init_28 : decode cX6_init 28 = .ok (.return_, 1) := by decide +kernel
theorem dX6_append_0 : decode cX6_append 0 = .ok (.aload_n 0, 1) := by decide +kernel
theorem dX6_append_1 : decode cX6_append 1 = .ok (.getfield 15, 3) := by decide +kernel
theorem dX6_append_4 : decode cX6_append 4 = .ok (.istore_n 3, 1) := by decide +kernel
theorem dX6_append_5 : decode cX6_append 5 = .ok (.bipush 56, 2) := by decide +kernel
theorem dX6_append_7 : decode cX6_append 7 = .ok (.istore 4, 2) := by decide +kernel
theorem dX6_append_9 : decode cX6_append 9 = .ok (.iload 4, 2) := by decide +kernel
theorem dX6_append_11 : decode cX6_append 11 = .ok (.ifCond .lt 57, 3) := by decide +kernel
theorem dX6_append_14 : decode cX6_append 14 = .ok (.lload_n 1, 1) := by decide +kernel
theorem dX6_append_15 : decode cX6_append 15 = .ok (.iload 4, 2) := by decide +kernel
theorem dX6_append_17 : decode cX6_append 17 = .ok (.lushr, 1) := by decide +kernel
theorem dX6_append_18 : decode cX6_append 18 = .ok (.l2i, 1) := by decide +kernel
theorem dX6_append_19 : decode cX6_append 19 = .ok (.sipush 255, 3) := by decide +kernel
theorem dX6_append_22 : decode cX6_append 22 = .ok (.iand, 1) := by decide +kernel
theorem dX6_append_23 : decode cX6_append 23 = .ok (.istore 5, 2) := by decide +kernel
theorem dX6_append_25 : decode cX6_append 25 = .ok (.iload 5, 2) := by decide +kernel
theorem dX6_append_27 : decode cX6_append 27 = .ok (.ifCond .ne 6, 3) := by decide +kernel
theorem dX6_append_30 : decode cX6_append 30 = .ok (.goto 32, 3) := by decide +kernel
theorem dX6_append_33 : decode cX6_append 33 = .ok (.iload 5, 2) := by decide +kernel
theorem dX6_append_35 : decode cX6_append 35 = .ok (.invokestatic 25, 3) := by decide +kernel
theorem dX6_append_38 : decode cX6_append 38 = .ok (.ifCond .eq 10, 3) := by decide +kernel
theorem dX6_append_41 : decode cX6_append 41 = .ok (.iload_n 3, 1) := by decide +kernel
theorem dX6_append_42 : decode cX6_append 42 = .ok (.sipush 2000, 3) := by decide +kernel
theorem dX6_append_45 : decode cX6_append 45 = .ok (.if_icmp .lt 5, 3) := by decide +kernel
theorem dX6_append_48 : decode cX6_append 48 = .ok (.iconst 0, 1) := by decide +kernel
theorem dX6_append_49 : decode cX6_append 49 = .ok (.ireturn, 1) := by decide +kernel
theorem dX6_append_50 : decode cX6_append 50 = .ok (.aload_n 0, 1) := by decide +kernel
theorem dX6_append_51 : decode cX6_append 51 = .ok (.getfield 9, 3) := by decide +kernel
theorem dX6_append_54 : decode cX6_append 54 = .ok (.iload_n 3, 1) := by decide +kernel
theorem dX6_append_55 : decode cX6_append 55 = .ok (.iload 5, 2) := by decide +kernel
theorem dX6_append_57 : decode cX6_append 57 = .ok (.i2c, 1) := by decide +kernel
theorem dX6_append_58 : decode cX6_append 58 = .ok (.castore, 1) := by decide +kernel
theorem dX6_append_59 : decode cX6_append 59 = .ok (.iinc 3 1, 3) := by decide +kernel
theorem dX6_append_62 : decode cX6_append 62 = .ok (.iinc 4 (-8), 3) := by decide +kernel
theorem dX6_append_65 : decode cX6_append 65 = .ok (.goto (-56), 3) := by decide +kernel
theorem dX6_append_68 : decode cX6_append 68 = .ok (.aload_n 0, 1) := by decide +kernel
theorem dX6_append_69 : decode cX6_append 69 = .ok (.iload_n 3, 1) := by decide +kernel
theorem dX6_append_70 : decode cX6_append 70 = .ok (.putfield 15, 3) := by decide +kernel
theorem dX6_append_73 : decode cX6_append 73 = .ok (.iconst 1, 1) := by decide +kernel
theorem dX6_append_74 : decode cX6_append 74 = .ok (.ireturn, 1) := by decide +kernel
theorem dX6_isCharacter_0 : decode cX6_isCharacter 0 = .ok (.iload_n 0, 1) := by decide +kernel
theorem dX6_isCharacter_1 : decode cX6_isCharacter 1 = .ok (.bipush 10, 2) := by decide +kernel
theorem dX6_isCharacter_3 : decode cX6_isCharacter 3 = .ok (.if_icmp .eq 15, 3) := by decide +kernel
theorem dX6_isCharacter_6 : decode cX6_isCharacter 6 = .ok (.iload_n 0, 1) := by decide +kernel
theorem dX6_isCharacter_7 : decode cX6_isCharacter 7 = .ok (.bipush 32, 2) := by decide +kernel
theorem dX6_isCharacter_9 : decode cX6_isCharacter 9 = .ok (.if_icmp .lt 13, 3) := by decide +kernel
theorem dX6_isCharacter_12 : decode cX6_isCharacter 12 = .ok (.iload_n 0, 1) := by decide +kernel
theorem dX6_isCharacter_13 : decode cX6_isCharacter 13 = .ok (.bipush 126, 2) := by decide +kernel
theorem dX6_isCharacter_15 : decode cX6_isCharacter 15 = .ok (.if_icmp .gt 7, 3) := by decide +kernel
theorem dX6_isCharacter_18 : decode cX6_isCharacter 18 = .ok (.iconst 1, 1) := by decide +kernel
theorem dX6_isCharacter_19 : decode cX6_isCharacter 19 = .ok (.goto 4, 3) := by decide +kernel
theorem dX6_isCharacter_22 : decode cX6_isCharacter 22 = .ok (.iconst 0, 1) := by decide +kernel
theorem dX6_isCharacter_23 : decode cX6_isCharacter 23 = .ok (.ireturn, 1) := by decide +kernel
theorem dX6_at_0 : decode cX6_at 0 = .ok (.iload_n 1, 1) := by decide +kernel
theorem dX6_at_1 : decode cX6_at 1 = .ok (.ifCond .lt 11, 3) := by decide +kernel
theorem dX6_at_4 : decode cX6_at 4 = .ok (.iload_n 1, 1) := by decide +kernel
theorem dX6_at_5 : decode cX6_at 5 = .ok (.aload_n 0, 1) := by decide +kernel
theorem dX6_at_6 : decode cX6_at 6 = .ok (.getfield 15, 3) := by decide +kernel
theorem dX6_at_9 : decode cX6_at 9 = .ok (.if_icmp .lt 7, 3) := by decide +kernel
theorem dX6_at_12 : decode cX6_at 12 = .ok (.iconst (-1), 1) := by decide +kernel
theorem dX6_at_13 : decode cX6_at 13 = .ok (.goto 9, 3) := by decide +kernel
theorem dX6_at_16 : decode cX6_at 16 = .ok (.aload_n 0, 1) := by decide +kernel
theorem dX6_at_17 : decode cX6_at 17 = .ok (.getfield 9, 3) := by decide +kernel
theorem dX6_at_20 : decode cX6_at 20 = .ok (.iload_n 1, 1) := by decide +kernel
theorem dX6_at_21 : decode cX6_at 21 = .ok (.caload, 1) := by decide +kernel
theorem dX6_at_22 : decode cX6_at 22 = .ok (.ireturn, 1) := by decide +kernel
theorem dX6_behindBlanks_0 : decode cX6_behindBlanks 0 = .ok (.iload_n 1, 1) := by decide +kernel
theorem dX6_behindBlanks_1 : decode cX6_behindBlanks 1 = .ok (.istore_n 2, 1) := by decide +kernel
theorem dX6_behindBlanks_2 : decode cX6_behindBlanks 2 = .ok (.iload_n 2, 1) := by decide +kernel
theorem dX6_behindBlanks_3 : decode cX6_behindBlanks 3 = .ok (.aload_n 0, 1) := by decide +kernel
theorem dX6_behindBlanks_4 : decode cX6_behindBlanks 4 = .ok (.getfield 15, 3) := by decide +kernel
theorem dX6_behindBlanks_7 : decode cX6_behindBlanks 7 = .ok (.if_icmp .ge 29, 3) := by decide +kernel
theorem dX6_behindBlanks_10 : decode cX6_behindBlanks 10 = .ok (.aload_n 0, 1) := by decide +kernel
theorem dX6_behindBlanks_11 : decode cX6_behindBlanks 11 = .ok (.iload_n 2, 1) := by decide +kernel
theorem dX6_behindBlanks_12 : decode cX6_behindBlanks 12 = .ok (.invokevirtual 29, 3) := by decide +kernel
theorem dX6_behindBlanks_15 : decode cX6_behindBlanks 15 = .ok (.bipush 32, 2) := by decide +kernel
theorem dX6_behindBlanks_17 : decode cX6_behindBlanks 17 = .ok (.if_icmp .eq 13, 3) := by decide +kernel
theorem dX6_behindBlanks_20 : decode cX6_behindBlanks 20 = .ok (.aload_n 0, 1) := by decide +kernel
theorem dX6_behindBlanks_21 : decode cX6_behindBlanks 21 = .ok (.iload_n 2, 1) := by decide +kernel
theorem dX6_behindBlanks_22 : decode cX6_behindBlanks 22 = .ok (.invokevirtual 29, 3) := by decide +kernel
theorem dX6_behindBlanks_25 : decode cX6_behindBlanks 25 = .ok (.bipush 10, 2) := by decide +kernel
theorem dX6_behindBlanks_27 : decode cX6_behindBlanks 27 = .ok (.if_icmp .ne 9, 3) := by decide +kernel
theorem dX6_behindBlanks_30 : decode cX6_behindBlanks 30 = .ok (.iinc 2 1, 3) := by decide +kernel
theorem dX6_behindBlanks_33 : decode cX6_behindBlanks 33 = .ok (.goto (-31), 3) := by decide +kernel
theorem dX6_behindBlanks_36 : decode cX6_behindBlanks 36 = .ok (.iload_n 2, 1) := by decide +kernel
theorem dX6_behindBlanks_37 : decode cX6_behindBlanks 37 = .ok (.ireturn, 1) := by decide +kernel
theorem dX7_init_0 : decode cX7_init 0 = .ok (.aload_n 0, 1) := by decide +kernel
theorem dX7_init_1 : decode cX7_init 1 = .ok (.invokespecial 5, 3) := by decide +kernel
theorem dX7_init_4 : decode cX7_init 4 = .ok (.aload_n 0, 1) := by decide +kernel
theorem dX7_init_5 : decode cX7_init 5 = .ok (.iconst 0, 1) := by decide +kernel
theorem dX7_init_6 : decode cX7_init 6 = .ok (.putfield 11, 3) := by decide +kernel
theorem dX7_init_9 : decode cX7_init 9 = .ok (.aload_n 0, 1) := by decide +kernel
theorem dX7_init_10 : decode cX7_init 10 = .ok (.iconst 0, 1) := by decide +kernel
theorem dX7_init_11 : decode cX7_init 11 = .ok (.putfield 15, 3) := by decide +kernel
theorem dX7_init_14 : decode cX7_init 14 = .ok (.aload_n 0, 1) := by decide +kernel
theorem dX7_init_15 : decode cX7_init 15 = .ok (.iload_n 1, 1) := by decide +kernel
theorem dX7_init_16 : decode cX7_init 16 = .ok (.newarray .int, 2) := by decide +kernel
theorem dX7_init_18 : decode cX7_init 18 = .ok (.putfield 18, 3) := by decide +kernel
theorem dX7_init_21 : decode cX7_init 21 = .ok (.aload_n 0, 1) := by decide +kernel
theorem dX7_init_22 : decode cX7_init 22 = .ok (.iload_n 1, 1) := by decide +kernel
theorem dX7_init_23 : decode cX7_init 23 = .ok (.newarray .int, 2) := by decide +kernel
theorem dX7_init_25 : decode cX7_init 25 = .ok (.putfield 22, 3) := by decide +kernel
theorem dX7_init_28 : decode cX7_init 28 = .ok (.aload_n 0, 1) := by decide +kernel
theorem dX7_init_29 : decode cX7_init 29 = .ok (.iload_n 1, 1) := by decide +kernel
theorem dX7_init_30 : decode cX7_init 30 = .ok (.bipush 11, 2) := by decide +kernel
theorem dX7_init_32 : decode cX7_init 32 = .ok (.imul, 1) := by decide +kernel
theorem dX7_init_33 : decode cX7_init 33 = .ok (.newarray .long, 2) := by decide +kernel
theorem dX7_init_35 : decode cX7_init 35 = .ok (.putfield 25, 3) := by decide +kernel
theorem dX7_init_38 : decode cX7_init 38 = .ok (.return_, 1) := by decide +kernel
theorem dX7_push_0 : decode cX7_push 0 = .ok (.aload_n 0, 1) := by decide +kernel
theorem dX7_push_1 : decode cX7_push 1 = .ok (.getfield 11, 3) := by decide +kernel
theorem dX7_push_4 : decode cX7_push 4 = .ok (.aload_n 0, 1) := by decide +kernel
theorem dX7_push_5 : decode cX7_push 5 = .ok (.getfield 18, 3) := by decide +kernel
theorem dX7_push_8 : decode cX7_push 8 = .ok (.arraylength, 1) := by decide +kernel
theorem dX7_push_9 : decode cX7_push 9 = .ok (.if_icmp .lt 5, 3) := by decide +kernel
theorem dX7_push_12 : decode cX7_push 12 = .ok (.iconst 0, 1) := by decide +kernel
theorem dX7_push_13 : decode cX7_push 13 = .ok (.ireturn, 1) := by decide +kernel
theorem dX7_push_14 : decode cX7_push 14 = .ok (.aload_n 0, 1) := by decide +kernel
theorem dX7_push_15 : decode cX7_push 15 = .ok (.getfield 11, 3) := by decide +kernel
theorem dX7_push_18 : decode cX7_push 18 = .ok (.bipush 11, 2) := by decide +kernel
theorem dX7_push_20 : decode cX7_push 20 = .ok (.imul, 1) := by decide +kernel
theorem dX7_push_21 : decode cX7_push 21 = .ok (.istore 8, 2) := by decide +kernel
theorem dX7_push_23 : decode cX7_push 23 = .ok (.iload 8, 2) := by decide +kernel
theorem dX7_push_25 : decode cX7_push 25 = .ok (.iconst 3, 1) := by decide +kernel
theorem dX7_push_26 : decode cX7_push 26 = .ok (.iadd, 1) := by decide +kernel
theorem dX7_push_27 : decode cX7_push 27 = .ok (.istore 9, 2) := by decide +kernel
theorem dX7_push_29 : decode cX7_push 29 = .ok (.iload 9, 2) := by decide +kernel
theorem dX7_push_31 : decode cX7_push 31 = .ok (.iload 8, 2) := by decide +kernel
theorem dX7_push_33 : decode cX7_push 33 = .ok (.bipush 11, 2) := by decide +kernel
theorem dX7_push_35 : decode cX7_push 35 = .ok (.iadd, 1) := by decide +kernel
theorem dX7_push_36 : decode cX7_push 36 = .ok (.if_icmp .ge 19, 3) := by decide +kernel
theorem dX7_push_39 : decode cX7_push 39 = .ok (.aload_n 0, 1) := by decide +kernel
theorem dX7_push_40 : decode cX7_push 40 = .ok (.getfield 25, 3) := by decide +kernel
theorem dX7_push_43 : decode cX7_push 43 = .ok (.iload 9, 2) := by decide +kernel
theorem dX7_push_45 : decode cX7_push 45 = .ok (.ldc2_w 29, 3) := by decide +kernel
theorem dX7_push_48 : decode cX7_push 48 = .ok (.lastore, 1) := by decide +kernel
theorem dX7_push_49 : decode cX7_push 49 = .ok (.iinc 9 1, 3) := by decide +kernel
theorem dX7_push_52 : decode cX7_push 52 = .ok (.goto (-23), 3) := by decide +kernel
theorem dX7_push_55 : decode cX7_push 55 = .ok (.aload_n 0, 1) := by decide +kernel
theorem dX7_push_56 : decode cX7_push 56 = .ok (.getfield 25, 3) := by decide +kernel
theorem dX7_push_59 : decode cX7_push 59 = .ok (.iload 8, 2) := by decide +kernel
theorem dX7_push_61 : decode cX7_push 61 = .ok (.iconst 0, 1) := by decide +kernel
theorem dX7_push_62 : decode cX7_push 62 = .ok (.iadd, 1) := by decide +kernel
theorem dX7_push_63 : decode cX7_push 63 = .ok (.lload_n 2, 1) := by decide +kernel
theorem dX7_push_64 : decode cX7_push 64 = .ok (.lastore, 1) := by decide +kernel
theorem dX7_push_65 : decode cX7_push 65 = .ok (.aload_n 0, 1) := by decide +kernel
theorem dX7_push_66 : decode cX7_push 66 = .ok (.getfield 25, 3) := by decide +kernel
theorem dX7_push_69 : decode cX7_push 69 = .ok (.iload 8, 2) := by decide +kernel
theorem dX7_push_71 : decode cX7_push 71 = .ok (.iconst 1, 1) := by decide +kernel
theorem dX7_push_72 : decode cX7_push 72 = .ok (.iadd, 1) := by decide +kernel
theorem dX7_push_73 : decode cX7_push 73 = .ok (.lload 4, 2) := by decide +kernel
theorem dX7_push_75 : decode cX7_push 75 = .ok (.lastore, 1) := by decide +kernel
theorem dX7_push_76 : decode cX7_push 76 = .ok (.aload_n 0, 1) := by decide +kernel
theorem dX7_push_77 : decode cX7_push 77 = .ok (.getfield 25, 3) := by decide +kernel
theorem dX7_push_80 : decode cX7_push 80 = .ok (.iload 8, 2) := by decide +kernel
theorem dX7_push_82 : decode cX7_push 82 = .ok (.iconst 2, 1) := by decide +kernel
theorem dX7_push_83 : decode cX7_push 83 = .ok (.iadd, 1) := by decide +kernel
theorem dX7_push_84 : decode cX7_push 84 = .ok (.lload 6, 2) := by decide +kernel
theorem dX7_push_86 : decode cX7_push 86 = .ok (.lastore, 1) := by decide +kernel
theorem dX7_push_87 : decode cX7_push 87 = .ok (.aload_n 0, 1) := by decide +kernel
theorem dX7_push_88 : decode cX7_push 88 = .ok (.getfield 18, 3) := by decide +kernel
theorem dX7_push_91 : decode cX7_push 91 = .ok (.aload_n 0, 1) := by decide +kernel
theorem dX7_push_92 : decode cX7_push 92 = .ok (.getfield 11, 3) := by decide +kernel
theorem dX7_push_95 : decode cX7_push 95 = .ok (.iload_n 1, 1) := by decide +kernel
theorem dX7_push_96 : decode cX7_push 96 = .ok (.iastore, 1) := by decide +kernel
theorem dX7_push_97 : decode cX7_push 97 = .ok (.aload_n 0, 1) := by decide +kernel
theorem dX7_push_98 : decode cX7_push 98 = .ok (.getfield 22, 3) := by decide +kernel
theorem dX7_push_101 : decode cX7_push 101 = .ok (.aload_n 0, 1) := by decide +kernel
theorem dX7_push_102 : decode cX7_push 102 = .ok (.getfield 11, 3) := by decide +kernel
theorem dX7_push_105 : decode cX7_push 105 = .ok (.iconst 0, 1) := by decide +kernel
theorem dX7_push_106 : decode cX7_push 106 = .ok (.iastore, 1) := by decide +kernel
theorem dX7_push_107 : decode cX7_push 107 = .ok (.aload_n 0, 1) := by decide +kernel
theorem dX7_push_108 : decode cX7_push 108 = .ok (.dup, 1) := by decide +kernel
theorem dX7_push_109 : decode cX7_push 109 = .ok (.getfield 11, 3) := by decide +kernel
theorem dX7_push_112 : decode cX7_push 112 = .ok (.iconst 1, 1) := by decide +kernel
theorem dX7_push_113 : decode cX7_push 113 = .ok (.iadd, 1) := by decide +kernel
theorem dX7_push_114 : decode cX7_push 114 = .ok (.putfield 11, 3) := by decide +kernel
theorem dX7_push_117 : decode cX7_push 117 = .ok (.aload_n 0, 1) := by decide +kernel
theorem dX7_push_118 : decode cX7_push 118 = .ok (.aload_n 0, 1) := by decide +kernel
theorem dX7_push_119 : decode cX7_push 119 = .ok (.getfield 15, 3) := by decide +kernel
theorem dX7_push_122 : decode cX7_push 122 = .ok (.aload_n 0, 1) := by decide +kernel
theorem dX7_push_123 : decode cX7_push 123 = .ok (.getfield 11, 3) := by decide +kernel
theorem dX7_push_126 : decode cX7_push 126 = .ok (.invokestatic 31, 3) := by decide +kernel
theorem dX7_push_129 : decode cX7_push 129 = .ok (.putfield 15, 3) := by decide +kernel
theorem dX7_push_132 : decode cX7_push 132 = .ok (.iconst 1, 1) := by decide +kernel
theorem dX7_push_133 : decode cX7_push 133 = .ok (.ireturn, 1) := by decide +kernel
theorem dX7_pop_0 : decode cX7_pop 0 = .ok (.aload_n 0, 1) := by decide +kernel
theorem dX7_pop_1 : decode cX7_pop 1 = .ok (.getfield 11, 3) := by decide +kernel
theorem dX7_pop_4 : decode cX7_pop 4 = .ok (.ifCond .le 13, 3) := by decide +kernel
theorem dX7_pop_7 : decode cX7_pop 7 = .ok (.aload_n 0, 1) := by decide +kernel
theorem dX7_pop_8 : decode cX7_pop 8 = .ok (.dup, 1) := by decide +kernel
theorem dX7_pop_9 : decode cX7_pop 9 = .ok (.getfield 11, 3) := by decide +kernel
theorem dX7_pop_12 : decode cX7_pop 12 = .ok (.iconst 1, 1) := by decide +kernel
theorem dX7_pop_13 : decode cX7_pop 13 = .ok (.isub, 1) := by decide +kernel
theorem dX7_pop_14 : decode cX7_pop 14 = .ok (.putfield 11, 3) := by decide +kernel
theorem dX7_pop_17 : decode cX7_pop 17 = .ok (.return_, 1) := by decide +kernel
theorem dX7_kindOnTop_0 : decode cX7_kindOnTop 0 = .ok (.aload_n 0, 1) := by decide +kernel
theorem dX7_kindOnTop_1 : decode cX7_kindOnTop 1 = .ok (.getfield 11, 3) := by decide +kernel
theorem dX7_kindOnTop_4 : decode cX7_kindOnTop 4 = .ok (.ifCond .le 17, 3) := by decide +kernel
theorem dX7_kindOnTop_7 : decode cX7_kindOnTop 7 = .ok (.aload_n 0, 1) := by decide +kernel
theorem dX7_kindOnTop_8 : decode cX7_kindOnTop 8 = .ok (.getfield 18, 3) := by decide +kernel
theorem dX7_kindOnTop_11 : decode cX7_kindOnTop 11 = .ok (.aload_n 0, 1) := by decide +kernel
theorem dX7_kindOnTop_12 : decode cX7_kindOnTop 12 = .ok (.getfield 11, 3) := by decide +kernel
theorem dX7_kindOnTop_15 : decode cX7_kindOnTop 15 = .ok (.iconst 1, 1) := by decide +kernel
theorem dX7_kindOnTop_16 : decode cX7_kindOnTop 16 = .ok (.isub, 1) := by decide +kernel
theorem dX7_kindOnTop_17 : decode cX7_kindOnTop 17 = .ok (.iaload, 1) := by decide +kernel
theorem dX7_kindOnTop_18 : decode cX7_kindOnTop 18 = .ok (.goto 4, 3) := by decide +kernel
theorem dX7_kindOnTop_21 : decode cX7_kindOnTop 21 = .ok (.iconst 0, 1) := by decide +kernel
theorem dX7_kindOnTop_22 : decode cX7_kindOnTop 22 = .ok (.ireturn, 1) := by decide +kernel
theorem dX7_valuesOnTop_0 : decode cX7_valuesOnTop 0 = .ok (.aload_n 0, 1) := by decide +kernel
theorem dX7_valuesOnTop_1 : decode cX7_valuesOnTop 1 = .ok (.getfield 11, 3) := by decide +kernel
theorem dX7_valuesOnTop_4 : decode cX7_valuesOnTop 4 = .ok (.ifCond .le 17, 3) := by decide +kernel
theorem dX7_valuesOnTop_7 : decode cX7_valuesOnTop 7 = .ok (.aload_n 0, 1) := by decide +kernel
theorem dX7_valuesOnTop_8 : decode cX7_valuesOnTop 8 = .ok (.getfield 22, 3) := by decide +kernel
theorem dX7_valuesOnTop_11 : decode cX7_valuesOnTop 11 = .ok (.aload_n 0, 1) := by decide +kernel
theorem dX7_valuesOnTop_12 : decode cX7_valuesOnTop 12 = .ok (.getfield 11, 3) := by decide +kernel
theorem dX7_valuesOnTop_15 : decode cX7_valuesOnTop 15 = .ok (.iconst 1, 1) := by decide +kernel
theorem dX7_valuesOnTop_16 : decode cX7_valuesOnTop 16 = .ok (.isub, 1) := by decide +kernel
theorem dX7_valuesOnTop_17 : decode cX7_valuesOnTop 17 = .ok (.iaload, 1) := by decide +kernel
theorem dX7_valuesOnTop_18 : decode cX7_valuesOnTop 18 = .ok (.goto 4, 3) := by decide +kernel
theorem dX7_valuesOnTop_21 : decode cX7_valuesOnTop 21 = .ok (.iconst 0, 1) := by decide +kernel
theorem dX7_valuesOnTop_22 : decode cX7_valuesOnTop 22 = .ok (.ireturn, 1) := by decide +kernel
theorem dX7_part_0 : decode cX7_part 0 = .ok (.aload_n 0, 1) := by decide +kernel
theorem dX7_part_1 : decode cX7_part 1 = .ok (.getfield 11, 3) := by decide +kernel
theorem dX7_part_4 : decode cX7_part 4 = .ok (.ifCond .le 22, 3) := by decide +kernel
theorem dX7_part_7 : decode cX7_part 7 = .ok (.aload_n 0, 1) := by decide +kernel
theorem dX7_part_8 : decode cX7_part 8 = .ok (.getfield 25, 3) := by decide +kernel
theorem dX7_part_11 : decode cX7_part 11 = .ok (.aload_n 0, 1) := by decide +kernel
theorem dX7_part_12 : decode cX7_part 12 = .ok (.getfield 11, 3) := by decide +kernel
theorem dX7_part_15 : decode cX7_part 15 = .ok (.iconst 1, 1) := by decide +kernel
theorem dX7_part_16 : decode cX7_part 16 = .ok (.isub, 1) := by decide +kernel
theorem dX7_part_17 : decode cX7_part 17 = .ok (.bipush 11, 2) := by decide +kernel
theorem dX7_part_19 : decode cX7_part 19 = .ok (.imul, 1) := by decide +kernel
theorem dX7_part_20 : decode cX7_part 20 = .ok (.iload_n 1, 1) := by decide +kernel
theorem dX7_part_21 : decode cX7_part 21 = .ok (.iadd, 1) := by decide +kernel
theorem dX7_part_22 : decode cX7_part 22 = .ok (.laload, 1) := by decide +kernel
theorem dX7_part_23 : decode cX7_part 23 = .ok (.goto 6, 3) := by decide +kernel
theorem dX7_part_26 : decode cX7_part 26 = .ok (.ldc2_w 29, 3) := by decide +kernel
theorem dX7_part_29 : decode cX7_part 29 = .ok (.lreturn, 1) := by decide +kernel
theorem dX7_setRest_0 : decode cX7_setRest 0 = .ok (.aload_n 0, 1) := by decide +kernel
theorem dX7_setRest_1 : decode cX7_setRest 1 = .ok (.getfield 11, 3) := by decide +kernel
theorem dX7_setRest_4 : decode cX7_setRest 4 = .ok (.ifCond .le 20, 3) := by decide +kernel
theorem dX7_setRest_7 : decode cX7_setRest 7 = .ok (.aload_n 0, 1) := by decide +kernel
theorem dX7_setRest_8 : decode cX7_setRest 8 = .ok (.getfield 25, 3) := by decide +kernel
theorem dX7_setRest_11 : decode cX7_setRest 11 = .ok (.aload_n 0, 1) := by decide +kernel
theorem dX7_setRest_12 : decode cX7_setRest 12 = .ok (.getfield 11, 3) := by decide +kernel
theorem dX7_setRest_15 : decode cX7_setRest 15 = .ok (.iconst 1, 1) := by decide +kernel
theorem dX7_setRest_16 : decode cX7_setRest 16 = .ok (.isub, 1) := by decide +kernel
theorem dX7_setRest_17 : decode cX7_setRest 17 = .ok (.bipush 11, 2) := by decide +kernel
theorem dX7_setRest_19 : decode cX7_setRest 19 = .ok (.imul, 1) := by decide +kernel
theorem dX7_setRest_20 : decode cX7_setRest 20 = .ok (.iconst 1, 1) := by decide +kernel
theorem dX7_setRest_21 : decode cX7_setRest 21 = .ok (.iadd, 1) := by decide +kernel
theorem dX7_setRest_22 : decode cX7_setRest 22 = .ok (.lload_n 1, 1) := by decide +kernel
theorem dX7_setRest_23 : decode cX7_setRest 23 = .ok (.lastore, 1) := by decide +kernel
theorem dX7_setRest_24 : decode cX7_setRest 24 = .ok (.return_, 1) := by decide +kernel
theorem dX7_addValue_0 : decode cX7_addValue 0 = .ok (.aload_n 0, 1) := by decide +kernel
theorem dX7_addValue_1 : decode cX7_addValue 1 = .ok (.invokevirtual 37, 3) := by decide +kernel
theorem dX7_addValue_4 : decode cX7_addValue 4 = .ok (.istore_n 3, 1) := by decide +kernel
theorem dX7_addValue_5 : decode cX7_addValue 5 = .ok (.aload_n 0, 1) := by decide +kernel
theorem dX7_addValue_6 : decode cX7_addValue 6 = .ok (.getfield 11, 3) := by decide +kernel
theorem dX7_addValue_9 : decode cX7_addValue 9 = .ok (.ifCond .le 42, 3) := by decide +kernel
theorem dX7_addValue_12 : decode cX7_addValue 12 = .ok (.iload_n 3, 1) := by decide +kernel
theorem dX7_addValue_13 : decode cX7_addValue 13 = .ok (.bipush 8, 2) := by decide +kernel
theorem dX7_addValue_15 : decode cX7_addValue 15 = .ok (.if_icmp .ge 36, 3) := by decide +kernel
theorem dX7_addValue_18 : decode cX7_addValue 18 = .ok (.aload_n 0, 1) := by decide +kernel
theorem dX7_addValue_19 : decode cX7_addValue 19 = .ok (.getfield 25, 3) := by decide +kernel
theorem dX7_addValue_22 : decode cX7_addValue 22 = .ok (.aload_n 0, 1) := by decide +kernel
theorem dX7_addValue_23 : decode cX7_addValue 23 = .ok (.getfield 11, 3) := by decide +kernel
theorem dX7_addValue_26 : decode cX7_addValue 26 = .ok (.iconst 1, 1) := by decide +kernel
theorem dX7_addValue_27 : decode cX7_addValue 27 = .ok (.isub, 1) := by decide +kernel
theorem dX7_addValue_28 : decode cX7_addValue 28 = .ok (.bipush 11, 2) := by decide +kernel
theorem dX7_addValue_30 : decode cX7_addValue 30 = .ok (.imul, 1) := by decide +kernel
theorem dX7_addValue_31 : decode cX7_addValue 31 = .ok (.iconst 3, 1) := by decide +kernel
theorem dX7_addValue_32 : decode cX7_addValue 32 = .ok (.iadd, 1) := by decide +kernel
theorem dX7_addValue_33 : decode cX7_addValue 33 = .ok (.iload_n 3, 1) := by decide +kernel
theorem dX7_addValue_34 : decode cX7_addValue 34 = .ok (.iadd, 1) := by decide +kernel
theorem dX7_addValue_35 : decode cX7_addValue 35 = .ok (.lload_n 1, 1) := by decide +kernel
theorem dX7_addValue_36 : decode cX7_addValue 36 = .ok (.lastore, 1) := by decide +kernel
theorem dX7_addValue_37 : decode cX7_addValue 37 = .ok (.aload_n 0, 1) := by decide +kernel
theorem dX7_addValue_38 : decode cX7_addValue 38 = .ok (.getfield 22, 3) := by decide +kernel
theorem dX7_addValue_41 : decode cX7_addValue 41 = .ok (.aload_n 0, 1) := by decide +kernel
theorem dX7_addValue_42 : decode cX7_addValue 42 = .ok (.getfield 11, 3) := by decide +kernel
theorem dX7_addValue_45 : decode cX7_addValue 45 = .ok (.iconst 1, 1) := by decide +kernel
theorem dX7_addValue_46 : decode cX7_addValue 46 = .ok (.isub, 1) := by decide +kernel
theorem dX7_addValue_47 : decode cX7_addValue 47 = .ok (.iload_n 3, 1) := by decide +kernel
theorem dX7_addValue_48 : decode cX7_addValue 48 = .ok (.iconst 1, 1) := by decide +kernel
theorem dX7_addValue_49 : decode cX7_addValue 49 = .ok (.iadd, 1) := by decide +kernel
theorem dX7_addValue_50 : decode cX7_addValue 50 = .ok (.iastore, 1) := by decide +kernel
theorem dX7_addValue_51 : decode cX7_addValue 51 = .ok (.return_, 1) := by decide +kernel
theorem dX7_putValues_0 : decode cX7_putValues 0 = .ok (.iconst 0, 1) := by decide +kernel
theorem dX7_putValues_1 : decode cX7_putValues 1 = .ok (.istore_n 3, 1) := by decide +kernel
theorem dX7_putValues_2 : decode cX7_putValues 2 = .ok (.iload_n 3, 1) := by decide +kernel
theorem dX7_putValues_3 : decode cX7_putValues 3 = .ok (.iload_n 2, 1) := by decide +kernel
theorem dX7_putValues_4 : decode cX7_putValues 4 = .ok (.if_icmp .ge 22, 3) := by decide +kernel
theorem dX7_putValues_7 : decode cX7_putValues 7 = .ok (.iload_n 3, 1) := by decide +kernel
theorem dX7_putValues_8 : decode cX7_putValues 8 = .ok (.bipush 8, 2) := by decide +kernel
theorem dX7_putValues_10 : decode cX7_putValues 10 = .ok (.if_icmp .ge 16, 3) := by decide +kernel
theorem dX7_putValues_13 : decode cX7_putValues 13 = .ok (.aload_n 0, 1) := by decide +kernel
theorem dX7_putValues_14 : decode cX7_putValues 14 = .ok (.aload_n 1, 1) := by decide +kernel
theorem dX7_putValues_15 : decode cX7_putValues 15 = .ok (.iload_n 3, 1) := by decide +kernel
theorem dX7_putValues_16 : decode cX7_putValues 16 = .ok (.laload, 1) := by decide +kernel
theorem dX7_putValues_17 : decode cX7_putValues 17 = .ok (.invokevirtual 41, 3) := by decide +kernel
theorem dX7_putValues_20 : decode cX7_putValues 20 = .ok (.iinc 3 1, 3) := by decide +kernel
theorem dX7_putValues_23 : decode cX7_putValues 23 = .ok (.goto (-21), 3) := by decide +kernel
theorem dX7_putValues_26 : decode cX7_putValues 26 = .ok (.return_, 1) := by decide +kernel
theorem dX7_takeValues_0 : decode cX7_takeValues 0 = .ok (.aload_n 0, 1) := by decide +kernel
theorem dX7_takeValues_1 : decode cX7_takeValues 1 = .ok (.invokevirtual 37, 3) := by decide +kernel
theorem dX7_takeValues_4 : decode cX7_takeValues 4 = .ok (.istore_n 2, 1) := by decide +kernel
theorem dX7_takeValues_5 : decode cX7_takeValues 5 = .ok (.aload_n 0, 1) := by decide +kernel
theorem dX7_takeValues_6 : decode cX7_takeValues 6 = .ok (.getfield 11, 3) := by decide +kernel
theorem dX7_takeValues_9 : decode cX7_takeValues 9 = .ok (.ifCond .le 24, 3) := by decide +kernel
theorem dX7_takeValues_12 : decode cX7_takeValues 12 = .ok (.aload_n 0, 1) := by decide +kernel
theorem dX7_takeValues_13 : decode cX7_takeValues 13 = .ok (.getfield 25, 3) := by decide +kernel
theorem dX7_takeValues_16 : decode cX7_takeValues 16 = .ok (.aload_n 0, 1) := by decide +kernel
theorem dX7_takeValues_17 : decode cX7_takeValues 17 = .ok (.getfield 11, 3) := by decide +kernel
theorem dX7_takeValues_20 : decode cX7_takeValues 20 = .ok (.iconst 1, 1) := by decide +kernel
theorem dX7_takeValues_21 : decode cX7_takeValues 21 = .ok (.isub, 1) := by decide +kernel
theorem dX7_takeValues_22 : decode cX7_takeValues 22 = .ok (.bipush 11, 2) := by decide +kernel
theorem dX7_takeValues_24 : decode cX7_takeValues 24 = .ok (.imul, 1) := by decide +kernel
theorem dX7_takeValues_25 : decode cX7_takeValues 25 = .ok (.iconst 3, 1) := by decide +kernel
theorem dX7_takeValues_26 : decode cX7_takeValues 26 = .ok (.iadd, 1) := by decide +kernel
theorem dX7_takeValues_27 : decode cX7_takeValues 27 = .ok (.aload_n 1, 1) := by decide +kernel
theorem dX7_takeValues_28 : decode cX7_takeValues 28 = .ok (.iconst 0, 1) := by decide +kernel
theorem dX7_takeValues_29 : decode cX7_takeValues 29 = .ok (.iload_n 2, 1) := by decide +kernel
theorem dX7_takeValues_30 : decode cX7_takeValues 30 = .ok (.invokestatic 45, 3) := by decide +kernel
theorem dX7_takeValues_33 : decode cX7_takeValues 33 = .ok (.iload_n 2, 1) := by decide +kernel
theorem dX7_takeValues_34 : decode cX7_takeValues 34 = .ok (.ireturn, 1) := by decide +kernel
theorem dX8_isNumber_0 : decode cX8_isNumber 0 = .ok (.lload_n 0, 1) := by decide +kernel
theorem dX8_isNumber_1 : decode cX8_isNumber 1 = .ok (.ldc2_w 9, 3) := by decide +kernel
theorem dX8_isNumber_4 : decode cX8_isNumber 4 = .ok (.lcmp, 1) := by decide +kernel
theorem dX8_isNumber_5 : decode cX8_isNumber 5 = .ok (.ifCond .ge 7, 3) := by decide +kernel
theorem dX8_isNumber_8 : decode cX8_isNumber 8 = .ok (.iconst 1, 1) := by decide +kernel
theorem dX8_isNumber_9 : decode cX8_isNumber 9 = .ok (.goto 4, 3) := by decide +kernel
theorem dX8_isNumber_12 : decode cX8_isNumber 12 = .ok (.iconst 0, 1) := by decide +kernel
theorem dX8_isNumber_13 : decode cX8_isNumber 13 = .ok (.ireturn, 1) := by decide +kernel
theorem dX8_isName_0 : decode cX8_isName 0 = .ok (.lload_n 0, 1) := by decide +kernel
theorem dX8_isName_1 : decode cX8_isName 1 = .ok (.ldc2_w 9, 3) := by decide +kernel
theorem dX8_isName_4 : decode cX8_isName 4 = .ok (.lcmp, 1) := by decide +kernel
theorem dX8_isName_5 : decode cX8_isName 5 = .ok (.ifCond .lt 15, 3) := by decide +kernel
theorem dX8_isName_8 : decode cX8_isName 8 = .ok (.lload_n 0, 1) := by decide +kernel
theorem dX8_isName_9 : decode cX8_isName 9 = .ok (.ldc2_w 11, 3) := by decide +kernel
theorem dX8_isName_12 : decode cX8_isName 12 = .ok (.lcmp, 1) := by decide +kernel
theorem dX8_isName_13 : decode cX8_isName 13 = .ok (.ifCond .ge 7, 3) := by decide +kernel
theorem dX8_isName_16 : decode cX8_isName 16 = .ok (.iconst 1, 1) := by decide +kernel
theorem dX8_isName_17 : decode cX8_isName 17 = .ok (.goto 4, 3) := by decide +kernel
theorem dX8_isName_20 : decode cX8_isName 20 = .ok (.iconst 0, 1) := by decide +kernel
theorem dX8_isName_21 : decode cX8_isName 21 = .ok (.ireturn, 1) := by decide +kernel
theorem dX8_isPair_0 : decode cX8_isPair 0 = .ok (.lload_n 0, 1) := by decide +kernel
theorem dX8_isPair_1 : decode cX8_isPair 1 = .ok (.ldc2_w 11, 3) := by decide +kernel
theorem dX8_isPair_4 : decode cX8_isPair 4 = .ok (.lcmp, 1) := by decide +kernel
theorem dX8_isPair_5 : decode cX8_isPair 5 = .ok (.ifCond .lt 15, 3) := by decide +kernel
theorem dX8_isPair_8 : decode cX8_isPair 8 = .ok (.lload_n 0, 1) := by decide +kernel
theorem dX8_isPair_9 : decode cX8_isPair 9 = .ok (.ldc2_w 13, 3) := by decide +kernel
theorem dX8_isPair_12 : decode cX8_isPair 12 = .ok (.lcmp, 1) := by decide +kernel
theorem dX8_isPair_13 : decode cX8_isPair 13 = .ok (.ifCond .ge 7, 3) := by decide +kernel
theorem dX8_isPair_16 : decode cX8_isPair 16 = .ok (.iconst 1, 1) := by decide +kernel
theorem dX8_isPair_17 : decode cX8_isPair 17 = .ok (.goto 4, 3) := by decide +kernel
theorem dX8_isPair_20 : decode cX8_isPair 20 = .ok (.iconst 0, 1) := by decide +kernel
theorem dX8_isPair_21 : decode cX8_isPair 21 = .ok (.ireturn, 1) := by decide +kernel
theorem dX8_isFixed_0 : decode cX8_isFixed 0 = .ok (.lload_n 0, 1) := by decide +kernel
theorem dX8_isFixed_1 : decode cX8_isFixed 1 = .ok (.invokestatic 15, 3) := by decide +kernel
theorem dX8_isFixed_4 : decode cX8_isFixed 4 = .ok (.ifCond .ne 19, 3) := by decide +kernel
theorem dX8_isFixed_7 : decode cX8_isFixed 7 = .ok (.lload_n 0, 1) := by decide +kernel
theorem dX8_isFixed_8 : decode cX8_isFixed 8 = .ok (.ldc2_w 9, 3) := by decide +kernel
theorem dX8_isFixed_11 : decode cX8_isFixed 11 = .ok (.lcmp, 1) := by decide +kernel
theorem dX8_isFixed_12 : decode cX8_isFixed 12 = .ok (.ifCond .eq 11, 3) := by decide +kernel
theorem dX8_isFixed_15 : decode cX8_isFixed 15 = .ok (.lload_n 0, 1) := by decide +kernel
theorem dX8_isFixed_16 : decode cX8_isFixed 16 = .ok (.ldc2_w 21, 3) := by decide +kernel
theorem dX8_isFixed_19 : decode cX8_isFixed 19 = .ok (.lcmp, 1) := by decide +kernel
theorem dX8_isFixed_20 : decode cX8_isFixed 20 = .ok (.ifCond .ne 7, 3) := by decide +kernel
theorem dX8_isFixed_23 : decode cX8_isFixed 23 = .ok (.iconst 1, 1) := by decide +kernel
theorem dX8_isFixed_24 : decode cX8_isFixed 24 = .ok (.goto 4, 3) := by decide +kernel
theorem dX8_isFixed_27 : decode cX8_isFixed 27 = .ok (.iconst 0, 1) := by decide +kernel
theorem dX8_isFixed_28 : decode cX8_isFixed 28 = .ok (.ireturn, 1) := by decide +kernel
theorem dX9_init_0 : decode cX9_init 0 = .ok (.aload_n 0, 1) := by decide +kernel
theorem dX9_init_1 : decode cX9_init 1 = .ok (.invokespecial 3, 3) := by decide +kernel
theorem dX9_init_4 : decode cX9_init 4 = .ok (.new 9, 3) := by decide +kernel
theorem dX9_init_7 : decode cX9_init 7 = .ok (.dup, 1) := by decide +kernel
theorem dX9_init_8 : decode cX9_init 8 = .ok (.iload_n 1, 1) := by decide +kernel
theorem dX9_init_9 : decode cX9_init 9 = .ok (.bipush 16, 2) := by decide +kernel
theorem dX9_init_11 : decode cX9_init 11 = .ok (.sipush 1000, 3) := by decide +kernel
theorem dX9_init_14 : decode cX9_init 14 = .ok (.sipush 300, 3) := by decide +kernel
theorem dX9_init_17 : decode cX9_init 17 = .ok (.invokestatic 11, 3) := by decide +kernel
theorem dX9_init_20 : decode cX9_init 20 = .ok (.invokespecial 15, 3) := by decide +kernel
theorem dX9_init_23 : decode cX9_init 23 = .ok (.astore 4, 2) := by decide +kernel
theorem dX9_init_25 : decode cX9_init 25 = .ok (.aload_n 0, 1) := by decide +kernel
theorem dX9_init_26 : decode cX9_init 26 = .ok (.new 18, 3) := by decide +kernel
theorem dX9_init_29 : decode cX9_init 29 = .ok (.dup, 1) := by decide +kernel
theorem dX9_init_30 : decode cX9_init 30 = .ok (.invokespecial 20, 3) := by decide +kernel
theorem dX9_init_33 : decode cX9_init 33 = .ok (.putfield 21, 3) := by decide +kernel
theorem dX9_init_36 : decode cX9_init 36 = .ok (.aload_n 0, 1) := by decide +kernel
theorem dX9_init_37 : decode cX9_init 37 = .ok (.new 25, 3) := by decide +kernel
theorem dX9_init_40 : decode cX9_init 40 = .ok (.dup, 1) := by decide +kernel
theorem dX9_init_41 : decode cX9_init 41 = .ok (.invokespecial 27, 3) := by decide +kernel
theorem dX9_init_44 : decode cX9_init 44 = .ok (.putfield 28, 3) := by decide +kernel
theorem dX9_init_47 : decode cX9_init 47 = .ok (.aload_n 0, 1) := by decide +kernel
theorem dX9_init_48 : decode cX9_init 48 = .ok (.new 32, 3) := by decide +kernel
theorem dX9_init_51 : decode cX9_init 51 = .ok (.dup, 1) := by decide +kernel
theorem dX9_init_52 : decode cX9_init 52 = .ok (.iload_n 2, 1) := by decide +kernel
theorem dX9_init_53 : decode cX9_init 53 = .ok (.iconst 4, 1) := by decide +kernel
theorem dX9_init_54 : decode cX9_init 54 = .ok (.sipush 200, 3) := by decide +kernel
theorem dX9_init_57 : decode cX9_init 57 = .ok (.bipush 100, 2) := by decide +kernel
theorem dX9_init_59 : decode cX9_init 59 = .ok (.invokestatic 11, 3) := by decide +kernel
theorem dX9_init_62 : decode cX9_init 62 = .ok (.invokespecial 34, 3) := by decide +kernel
theorem dX9_init_65 : decode cX9_init 65 = .ok (.putfield 35, 3) := by decide +kernel
theorem dX9_init_68 : decode cX9_init 68 = .ok (.aload_n 0, 1) := by decide +kernel
theorem dX9_init_69 : decode cX9_init 69 = .ok (.new 39, 3) := by decide +kernel
theorem dX9_init_72 : decode cX9_init 72 = .ok (.dup, 1) := by decide +kernel
theorem dX9_init_73 : decode cX9_init 73 = .ok (.aload 4, 2) := by decide +kernel
theorem dX9_init_75 : decode cX9_init 75 = .ok (.aload_n 0, 1) := by decide +kernel
theorem dX9_init_76 : decode cX9_init 76 = .ok (.getfield 28, 3) := by decide +kernel
theorem dX9_init_79 : decode cX9_init 79 = .ok (.aload_n 0, 1) := by decide +kernel
theorem dX9_init_80 : decode cX9_init 80 = .ok (.getfield 35, 3) := by decide +kernel
theorem dX9_init_83 : decode cX9_init 83 = .ok (.invokespecial 41, 3) := by decide +kernel
theorem dX9_init_86 : decode cX9_init 86 = .ok (.putfield 44, 3) := by decide +kernel
theorem dX9_init_89 : decode cX9_init 89 = .ok (.aload_n 0, 1) := by decide +kernel
theorem dX9_init_90 : decode cX9_init 90 = .ok (.new 48, 3) := by decide +kernel
theorem dX9_init_93 : decode cX9_init 93 = .ok (.dup, 1) := by decide +kernel
theorem dX9_init_94 : decode cX9_init 94 = .ok (.aload_n 0, 1) := by decide +kernel
theorem dX9_init_95 : decode cX9_init 95 = .ok (.getfield 21, 3) := by decide +kernel
theorem dX9_init_98 : decode cX9_init 98 = .ok (.aload_n 0, 1) := by decide +kernel
theorem dX9_init_99 : decode cX9_init 99 = .ok (.getfield 28, 3) := by decide +kernel
theorem dX9_init_102 : decode cX9_init 102 = .ok (.aload 4, 2) := by decide +kernel
theorem dX9_init_104 : decode cX9_init 104 = .ok (.aload_n 0, 1) := by decide +kernel
theorem dX9_init_105 : decode cX9_init 105 = .ok (.getfield 44, 3) := by decide +kernel
theorem dX9_init_108 : decode cX9_init 108 = .ok (.invokespecial 50, 3) := by decide +kernel
theorem dX9_init_111 : decode cX9_init 111 = .ok (.putfield 53, 3) := by decide +kernel
theorem dX9_init_114 : decode cX9_init 114 = .ok (.aload_n 0, 1) := by decide +kernel
theorem dX9_init_115 : decode cX9_init 115 = .ok (.new 57, 3) := by decide +kernel
theorem dX9_init_118 : decode cX9_init 118 = .ok (.dup, 1) := by decide +kernel
theorem dX9_init_119 : decode cX9_init 119 = .ok (.aload 4, 2) := by decide +kernel
theorem dX9_init_121 : decode cX9_init 121 = .ok (.aload_n 0, 1) := by decide +kernel
theorem dX9_init_122 : decode cX9_init 122 = .ok (.getfield 28, 3) := by decide +kernel
theorem dX9_init_125 : decode cX9_init 125 = .ok (.aload_n 0, 1) := by decide +kernel
theorem dX9_init_126 : decode cX9_init 126 = .ok (.getfield 35, 3) := by decide +kernel
theorem dX9_init_129 : decode cX9_init 129 = .ok (.aload_n 0, 1) := by decide +kernel
theorem dX9_init_130 : decode cX9_init 130 = .ok (.getfield 44, 3) := by decide +kernel
theorem dX9_init_133 : decode cX9_init 133 = .ok (.iload_n 3, 1) := by decide +kernel
theorem dX9_init_134 : decode cX9_init 134 = .ok (.bipush 10, 2) := by decide +kernel
theorem dX9_init_136 : decode cX9_init 136 = .ok (.sipush 20000, 3) := by decide +kernel
theorem dX9_init_139 : decode cX9_init 139 = .ok (.sipush 5000, 3) := by decide +kernel
theorem dX9_init_142 : decode cX9_init 142 = .ok (.invokestatic 11, 3) := by decide +kernel
theorem dX9_init_145 : decode cX9_init 145 = .ok (.invokespecial 59, 3) := by decide +kernel
theorem dX9_init_148 : decode cX9_init 148 = .ok (.putfield 62, 3) := by decide +kernel
theorem dX9_init_151 : decode cX9_init 151 = .ok (.aload_n 0, 1) := by decide +kernel
theorem dX9_init_152 : decode cX9_init 152 = .ok (.new 66, 3) := by decide +kernel
theorem dX9_init_155 : decode cX9_init 155 = .ok (.dup, 1) := by decide +kernel
theorem dX9_init_156 : decode cX9_init 156 = .ok (.aload 4, 2) := by decide +kernel
theorem dX9_init_158 : decode cX9_init 158 = .ok (.aload_n 0, 1) := by decide +kernel
theorem dX9_init_159 : decode cX9_init 159 = .ok (.getfield 28, 3) := by decide +kernel
theorem dX9_init_162 : decode cX9_init 162 = .ok (.invokespecial 68, 3) := by decide +kernel
theorem dX9_init_165 : decode cX9_init 165 = .ok (.putfield 71, 3) := by decide +kernel
theorem dX9_init_168 : decode cX9_init 168 = .ok (.aload_n 0, 1) := by decide +kernel
theorem dX9_init_169 : decode cX9_init 169 = .ok (.iconst 0, 1) := by decide +kernel
theorem dX9_init_170 : decode cX9_init 170 = .ok (.putfield 75, 3) := by decide +kernel
theorem dX9_init_173 : decode cX9_init 173 = .ok (.return_, 1) := by decide +kernel
theorem dX9_within_0 : decode cX9_within 0 = .ok (.iload_n 0, 1) := by decide +kernel
theorem dX9_within_1 : decode cX9_within 1 = .ok (.iload_n 1, 1) := by decide +kernel
theorem dX9_within_2 : decode cX9_within 2 = .ok (.if_icmp .lt 8, 3) := by decide +kernel
theorem dX9_within_5 : decode cX9_within 5 = .ok (.iload_n 0, 1) := by decide +kernel
theorem dX9_within_6 : decode cX9_within 6 = .ok (.iload_n 2, 1) := by decide +kernel
theorem dX9_within_7 : decode cX9_within 7 = .ok (.if_icmp .le 7, 3) := by decide +kernel
theorem dX9_within_10 : decode cX9_within 10 = .ok (.iload_n 3, 1) := by decide +kernel
theorem dX9_within_11 : decode cX9_within 11 = .ok (.goto 4, 3) := by decide +kernel
theorem dX9_within_14 : decode cX9_within 14 = .ok (.iload_n 0, 1) := by decide +kernel
theorem dX9_within_15 : decode cX9_within 15 = .ok (.ireturn, 1) := by decide +kernel
theorem dX9_write_0 : decode cX9_write 0 = .ok (.aload_n 0, 1) := by decide +kernel
theorem dX9_write_1 : decode cX9_write 1 = .ok (.getfield 21, 3) := by decide +kernel
theorem dX9_write_4 : decode cX9_write 4 = .ok (.lload_n 1, 1) := by decide +kernel
theorem dX9_write_5 : decode cX9_write 5 = .ok (.invokevirtual 79, 3) := by decide +kernel
theorem dX9_write_8 : decode cX9_write 8 = .ok (.ireturn, 1) := by decide +kernel
theorem dX9_clear_0 : decode cX9_clear 0 = .ok (.aload_n 0, 1) := by decide +kernel
theorem dX9_clear_1 : decode cX9_clear 1 = .ok (.getfield 21, 3) := by decide +kernel
theorem dX9_clear_4 : decode cX9_clear 4 = .ok (.iconst 0, 1) := by decide +kernel
theorem dX9_clear_5 : decode cX9_clear 5 = .ok (.putfield 83, 3) := by decide +kernel
theorem dX9_clear_8 : decode cX9_clear 8 = .ok (.aload_n 0, 1) := by decide +kernel
theorem dX9_clear_9 : decode cX9_clear 9 = .ok (.getfield 21, 3) := by decide +kernel
theorem dX9_clear_12 : decode cX9_clear 12 = .ok (.iconst 0, 1) := by decide +kernel
theorem dX9_clear_13 : decode cX9_clear 13 = .ok (.putfield 86, 3) := by decide +kernel
theorem dX9_clear_16 : decode cX9_clear 16 = .ok (.aload_n 0, 1) := by decide +kernel
theorem dX9_clear_17 : decode cX9_clear 17 = .ok (.getfield 21, 3) := by decide +kernel
theorem dX9_clear_20 : decode cX9_clear 20 = .ok (.iconst (-1), 1) := by decide +kernel
theorem dX9_clear_21 : decode cX9_clear 21 = .ok (.putfield 89, 3) := by decide +kernel
theorem dX9_clear_24 : decode cX9_clear 24 = .ok (.return_, 1) := by decide +kernel
theorem dX9_next_0 : decode cX9_next 0 = .ok (.aload_n 0, 1) := by decide +kernel
theorem dX9_next_1 : decode cX9_next 1 = .ok (.getfield 71, 3) := by decide +kernel
theorem dX9_next_4 : decode cX9_next 4 = .ok (.iconst 0, 1) := by decide +kernel
theorem dX9_next_5 : decode cX9_next 5 = .ok (.putfield 92, 3) := by decide +kernel
theorem dX9_next_8 : decode cX9_next 8 = .ok (.aload_n 0, 1) := by decide +kernel
theorem dX9_next_9 : decode cX9_next 9 = .ok (.getfield 62, 3) := by decide +kernel
theorem dX9_next_12 : decode cX9_next 12 = .ok (.iconst 0, 1) := by decide +kernel
theorem dX9_next_13 : decode cX9_next 13 = .ok (.putfield 93, 3) := by decide +kernel
theorem dX9_next_16 : decode cX9_next 16 = .ok (.aload_n 0, 1) := by decide +kernel
theorem dX9_next_17 : decode cX9_next 17 = .ok (.getfield 35, 3) := by decide +kernel
theorem dX9_next_20 : decode cX9_next 20 = .ok (.iconst 0, 1) := by decide +kernel
theorem dX9_next_21 : decode cX9_next 21 = .ok (.putfield 96, 3) := by decide +kernel
theorem dX9_next_24 : decode cX9_next 24 = .ok (.aload_n 0, 1) := by decide +kernel
theorem dX9_next_25 : decode cX9_next 25 = .ok (.getfield 35, 3) := by decide +kernel
theorem dX9_next_28 : decode cX9_next 28 = .ok (.iconst 0, 1) := by decide +kernel
theorem dX9_next_29 : decode cX9_next 29 = .ok (.putfield 99, 3) := by decide +kernel
theorem dX9_next_32 : decode cX9_next 32 = .ok (.aload_n 0, 1) := by decide +kernel
theorem dX9_next_33 : decode cX9_next 33 = .ok (.iconst 0, 1) := by decide +kernel
theorem dX9_next_34 : decode cX9_next 34 = .ok (.putfield 75, 3) := by decide +kernel
theorem dX9_next_37 : decode cX9_next 37 = .ok (.aload_n 0, 1) := by decide +kernel
theorem dX9_next_38 : decode cX9_next 38 = .ok (.getfield 21, 3) := by decide +kernel
theorem dX9_next_41 : decode cX9_next 41 = .ok (.iconst (-1), 1) := by decide +kernel
theorem dX9_next_42 : decode cX9_next 42 = .ok (.putfield 89, 3) := by decide +kernel
theorem dX9_next_45 : decode cX9_next 45 = .ok (.aload_n 0, 1) := by decide +kernel
theorem dX9_next_46 : decode cX9_next 46 = .ok (.getfield 21, 3) := by decide +kernel
theorem dX9_next_49 : decode cX9_next 49 = .ok (.aload_n 0, 1) := by decide +kernel
theorem dX9_next_50 : decode cX9_next 50 = .ok (.getfield 21, 3) := by decide +kernel
theorem dX9_next_53 : decode cX9_next 53 = .ok (.aload_n 0, 1) := by decide +kernel
theorem dX9_next_54 : decode cX9_next 54 = .ok (.getfield 21, 3) := by decide +kernel
theorem dX9_next_57 : decode cX9_next 57 = .ok (.getfield 86, 3) := by decide +kernel
theorem dX9_next_60 : decode cX9_next 60 = .ok (.invokevirtual 102, 3) := by decide +kernel
theorem dX9_next_63 : decode cX9_next 63 = .ok (.putfield 86, 3) := by decide +kernel
theorem dX9_next_66 : decode cX9_next 66 = .ok (.aload_n 0, 1) := by decide +kernel
theorem dX9_next_67 : decode cX9_next 67 = .ok (.getfield 21, 3) := by decide +kernel
theorem dX9_next_70 : decode cX9_next 70 = .ok (.getfield 86, 3) := by decide +kernel
theorem dX9_next_73 : decode cX9_next 73 = .ok (.aload_n 0, 1) := by decide +kernel
theorem dX9_next_74 : decode cX9_next 74 = .ok (.getfield 21, 3) := by decide +kernel
theorem dX9_next_77 : decode cX9_next 77 = .ok (.getfield 83, 3) := by decide +kernel
theorem dX9_next_80 : decode cX9_next 80 = .ok (.if_icmp .lt 5, 3) := by decide +kernel
theorem dX9_next_83 : decode cX9_next 83 = .ok (.iconst 0, 1) := by decide +kernel
theorem dX9_next_84 : decode cX9_next 84 = .ok (.ireturn, 1) := by decide +kernel
theorem dX9_next_85 : decode cX9_next 85 = .ok (.aload_n 0, 1) := by decide +kernel
theorem dX9_next_86 : decode cX9_next 86 = .ok (.aload_n 0, 1) := by decide +kernel
theorem dX9_next_87 : decode cX9_next 87 = .ok (.getfield 53, 3) := by decide +kernel
theorem dX9_next_90 : decode cX9_next 90 = .ok (.invokevirtual 106, 3) := by decide +kernel
theorem dX9_next_93 : decode cX9_next 93 = .ok (.putfield 75, 3) := by decide +kernel
theorem dX9_next_96 : decode cX9_next 96 = .ok (.aload_n 0, 1) := by decide +kernel
theorem dX9_next_97 : decode cX9_next 97 = .ok (.getfield 75, 3) := by decide +kernel
theorem dX9_next_100 : decode cX9_next 100 = .ok (.bipush 10, 2) := by decide +kernel
theorem dX9_next_102 : decode cX9_next 102 = .ok (.if_icmp .ne 13, 3) := by decide +kernel
theorem dX9_next_105 : decode cX9_next 105 = .ok (.new 110, 3) := by decide +kernel
theorem dX9_next_108 : decode cX9_next 108 = .ok (.dup, 1) := by decide +kernel
theorem dX9_next_109 : decode cX9_next 109 = .ok (.ldc 112, 2) := by decide +kernel
theorem dX9_next_111 : decode cX9_next 111 = .ok (.invokespecial 114, 3) := by decide +kernel
theorem dX9_next_114 : decode cX9_next 114 = .ok (.athrow, 1) := by decide +kernel
theorem dX9_next_115 : decode cX9_next 115 = .ok (.aload_n 0, 1) := by decide +kernel
theorem dX9_next_116 : decode cX9_next 116 = .ok (.getfield 75, 3) := by decide +kernel
theorem dX9_next_119 : decode cX9_next 119 = .ok (.ifCond .ne 21, 3) := by decide +kernel
theorem dX9_next_122 : decode cX9_next 122 = .ok (.aload_n 0, 1) := by decide +kernel
theorem dX9_next_123 : decode cX9_next 123 = .ok (.aload_n 0, 1) := by decide +kernel
theorem dX9_next_124 : decode cX9_next 124 = .ok (.getfield 62, 3) := by decide +kernel
theorem dX9_next_127 : decode cX9_next 127 = .ok (.aload_n 0, 1) := by decide +kernel
theorem dX9_next_128 : decode cX9_next 128 = .ok (.getfield 53, 3) := by decide +kernel
theorem dX9_next_131 : decode cX9_next 131 = .ok (.getfield 117, 3) := by decide +kernel
theorem dX9_next_134 : decode cX9_next 134 = .ok (.invokevirtual 121, 3) := by decide +kernel
theorem dX9_next_137 : decode cX9_next 137 = .ok (.putfield 75, 3) := by decide +kernel
theorem dX9_next_140 : decode cX9_next 140 = .ok (.aload_n 0, 1) := by decide +kernel
theorem dX9_next_141 : decode cX9_next 141 = .ok (.getfield 75, 3) := by decide +kernel
theorem dX9_next_144 : decode cX9_next 144 = .ok (.ifCond .eq 13, 3) := by decide +kernel
theorem dX9_next_147 : decode cX9_next 147 = .ok (.new 125, 3) := by decide +kernel
theorem dX9_next_150 : decode cX9_next 150 = .ok (.dup, 1) := by decide +kernel
theorem dX9_next_151 : decode cX9_next 151 = .ok (.ldc 127, 2) := by decide +kernel
theorem dX9_next_153 : decode cX9_next 153 = .ok (.invokespecial 129, 3) := by decide +kernel
theorem dX9_next_156 : decode cX9_next 156 = .ok (.athrow, 1) := by decide +kernel
theorem dX9_next_157 : decode cX9_next 157 = .ok (.aload_n 0, 1) := by decide +kernel
theorem dX9_next_158 : decode cX9_next 158 = .ok (.getfield 71, 3) := by decide +kernel
theorem dX9_next_161 : decode cX9_next 161 = .ok (.aload_n 0, 1) := by decide +kernel
theorem dX9_next_162 : decode cX9_next 162 = .ok (.getfield 62, 3) := by decide +kernel
theorem dX9_next_165 : decode cX9_next 165 = .ok (.getfield 130, 3) := by decide +kernel
theorem dX9_next_168 : decode cX9_next 168 = .ok (.invokevirtual 133, 3) := by decide +kernel
theorem dX9_next_171 : decode cX9_next 171 = .ok (.iconst 1, 1) := by decide +kernel
theorem dX9_next_172 : decode cX9_next 172 = .ok (.ireturn, 1) := by decide +kernel
theorem dX9_fault_0 : decode cX9_fault 0 = .ok (.aload_n 0, 1) := by decide +kernel
theorem dX9_fault_1 : decode cX9_fault 1 = .ok (.getfield 75, 3) := by decide +kernel
theorem dX9_fault_4 : decode cX9_fault 4 = .ok (.ireturn, 1) := by decide +kernel
theorem dX9_place_0 : decode cX9_place 0 = .ok (.aload_n 0, 1) := by decide +kernel
theorem dX9_place_1 : decode cX9_place 1 = .ok (.getfield 21, 3) := by decide +kernel
theorem dX9_place_4 : decode cX9_place 4 = .ok (.getfield 89, 3) := by decide +kernel
theorem dX9_place_7 : decode cX9_place 7 = .ok (.iconst (-1), 1) := by decide +kernel
theorem dX9_place_8 : decode cX9_place 8 = .ok (.if_icmp .ne 13, 3) := by decide +kernel
theorem dX9_place_11 : decode cX9_place 11 = .ok (.aload_n 0, 1) := by decide +kernel
theorem dX9_place_12 : decode cX9_place 12 = .ok (.getfield 21, 3) := by decide +kernel
theorem dX9_place_15 : decode cX9_place 15 = .ok (.getfield 86, 3) := by decide +kernel
theorem dX9_place_18 : decode cX9_place 18 = .ok (.goto 10, 3) := by decide +kernel
theorem dX9_place_21 : decode cX9_place 21 = .ok (.aload_n 0, 1) := by decide +kernel
theorem dX9_place_22 : decode cX9_place 22 = .ok (.getfield 21, 3) := by decide +kernel
theorem dX9_place_25 : decode cX9_place 25 = .ok (.getfield 89, 3) := by decide +kernel
theorem dX9_place_28 : decode cX9_place 28 = .ok (.ireturn, 1) := by decide +kernel
theorem dX9_size_0 : decode cX9_size 0 = .ok (.aload_n 0, 1) := by decide +kernel
theorem dX9_size_1 : decode cX9_size 1 = .ok (.getfield 71, 3) := by decide +kernel
theorem dX9_size_4 : decode cX9_size 4 = .ok (.getfield 92, 3) := by decide +kernel
theorem dX9_size_7 : decode cX9_size 7 = .ok (.ireturn, 1) := by decide +kernel
theorem dX9_out_0 : decode cX9_out 0 = .ok (.iload_n 1, 1) := by decide +kernel
theorem dX9_out_1 : decode cX9_out 1 = .ok (.ifCond .lt 14, 3) := by decide +kernel
theorem dX9_out_4 : decode cX9_out 4 = .ok (.iload_n 1, 1) := by decide +kernel
theorem dX9_out_5 : decode cX9_out 5 = .ok (.aload_n 0, 1) := by decide +kernel
theorem dX9_out_6 : decode cX9_out 6 = .ok (.getfield 71, 3) := by decide +kernel
theorem dX9_out_9 : decode cX9_out 9 = .ok (.getfield 92, 3) := by decide +kernel
theorem dX9_out_12 : decode cX9_out 12 = .ok (.if_icmp .lt 7, 3) := by decide +kernel
theorem dX9_out_15 : decode cX9_out 15 = .ok (.iconst (-1), 1) := by decide +kernel
theorem dX9_out_16 : decode cX9_out 16 = .ok (.goto 12, 3) := by decide +kernel
theorem dX9_out_19 : decode cX9_out 19 = .ok (.aload_n 0, 1) := by decide +kernel
theorem dX9_out_20 : decode cX9_out 20 = .ok (.getfield 71, 3) := by decide +kernel
theorem dX9_out_23 : decode cX9_out 23 = .ok (.getfield 137, 3) := by decide +kernel
theorem dX9_out_26 : decode cX9_out 26 = .ok (.iload_n 1, 1) := by decide +kernel
theorem dX9_out_27 : decode cX9_out 27 = .ok (.caload, 1) := by decide +kernel
theorem dX9_out_28 : decode cX9_out 28 = .ok (.ireturn, 1) := by decide +kernel
theorem dX9_count_0 : decode cX9_count 0 = .ok (.iload_n 1, 1) := by decide +kernel
theorem dX9_count_1 : decode cX9_count 1 = .ok (.tableswitch 63 0 3 #[31, 39, 47, 55], 31) := by decide +kernel
theorem dX9_count_32 : decode cX9_count 32 = .ok (.aload_n 0, 1) := by decide +kernel
theorem dX9_count_33 : decode cX9_count 33 = .ok (.getfield 62, 3) := by decide +kernel
theorem dX9_count_36 : decode cX9_count 36 = .ok (.getfield 93, 3) := by decide +kernel
theorem dX9_count_39 : decode cX9_count 39 = .ok (.ireturn, 1) := by decide +kernel
theorem dX9_count_40 : decode cX9_count 40 = .ok (.aload_n 0, 1) := by decide +kernel
theorem dX9_count_41 : decode cX9_count 41 = .ok (.getfield 44, 3) := by decide +kernel
theorem dX9_count_44 : decode cX9_count 44 = .ok (.invokevirtual 141, 3) := by decide +kernel
theorem dX9_count_47 : decode cX9_count 47 = .ok (.ireturn, 1) := by decide +kernel
theorem dX9_count_48 : decode cX9_count 48 = .ok (.aload_n 0, 1) := by decide +kernel
theorem dX9_count_49 : decode cX9_count 49 = .ok (.getfield 28, 3) := by decide +kernel
theorem dX9_count_52 : decode cX9_count 52 = .ok (.getfield 144, 3) := by decide +kernel
theorem dX9_count_55 : decode cX9_count 55 = .ok (.ireturn, 1) := by decide +kernel
theorem dX9_count_56 : decode cX9_count 56 = .ok (.aload_n 0, 1) := by decide +kernel
theorem dX9_count_57 : decode cX9_count 57 = .ok (.getfield 35, 3) := by decide +kernel
theorem dX9_count_60 : decode cX9_count 60 = .ok (.getfield 99, 3) := by decide +kernel
theorem dX9_count_63 : decode cX9_count 63 = .ok (.ireturn, 1) := by decide +kernel
theorem dX9_count_64 : decode cX9_count 64 = .ok (.iconst (-1), 1) := by decide +kernel
theorem dX9_count_65 : decode cX9_count 65 = .ok (.ireturn, 1) := by decide +kernel
