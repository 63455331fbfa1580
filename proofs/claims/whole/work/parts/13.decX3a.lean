theorem dX3_init_0 : decode cX3_init 0 = .ok (.aload_n 0, 1) := by decide +kernel
theorem dX3_init_1 : decode cX3_init 1 = .ok (.invokespecial 1, 3) := by decide +kernel
theorem dX3_init_4 : decode cX3_init 4 = .ok (.aload_n 0, 1) := by decide +kernel
theorem dX3_init_5 : decode cX3_init 5 = .ok (.sipush 1085, 3) := by decide +kernel
theorem dX3_init_8 : decode cX3_init 8 = .ok (.newarray .int, 2) := by decide +kernel
theorem dX3_init_10 : decode cX3_init 10 = .ok (.putfield 7, 3) := by decide +kernel
theorem dX3_init_13 : decode cX3_init 13 = .ok (.aload_n 0, 1) := by decide +kernel
theorem dX3_init_14 : decode cX3_init 14 = .ok (.bipush 60, 2) := by decide +kernel
theorem dX3_init_16 : decode cX3_init 16 = .ok (.newarray .int, 2) := by decide +kernel
theorem dX3_init_18 : decode cX3_init 18 = .ok (.putfield 13, 3) := by decide +kernel
theorem dX3_init_21 : decode cX3_init 21 = .ok (.aload_n 0, 1) := by decide +kernel
theorem dX3_init_22 : decode cX3_init 22 = .ok (.getfield 7, 3) := by decide +kernel
theorem dX3_init_25 : decode cX3_init 25 = .ok (.iconst 1, 1) := by decide +kernel
theorem dX3_init_26 : decode cX3_init 26 = .ok (.iconst (-1), 1) := by decide +kernel
theorem dX3_init_27 : decode cX3_init 27 = .ok (.iastore, 1) := by decide +kernel
theorem dX3_init_28 : decode cX3_init 28 = .ok (.aload_n 0, 1) := by decide +kernel
theorem dX3_init_29 : decode cX3_init 29 = .ok (.getfield 7, 3) := by decide +kernel
theorem dX3_init_32 : decode cX3_init 32 = .ok (.iconst 5, 1) := by decide +kernel
theorem dX3_init_33 : decode cX3_init 33 = .ok (.iconst (-1), 1) := by decide +kernel
theorem dX3_init_34 : decode cX3_init 34 = .ok (.iastore, 1) := by decide +kernel
theorem dX3_init_35 : decode cX3_init 35 = .ok (.aload_n 0, 1) := by decide +kernel
theorem dX3_init_36 : decode cX3_init 36 = .ok (.getfield 7, 3) := by decide +kernel
theorem dX3_init_39 : decode cX3_init 39 = .ok (.bipush 6, 2) := by decide +kernel
theorem dX3_init_41 : decode cX3_init 41 = .ok (.iconst (-1), 1) := by decide +kernel
theorem dX3_init_42 : decode cX3_init 42 = .ok (.iastore, 1) := by decide +kernel
theorem dX3_init_43 : decode cX3_init 43 = .ok (.iconst 0, 1) := by decide +kernel
theorem dX3_init_44 : decode cX3_init 44 = .ok (.istore_n 1, 1) := by decide +kernel
theorem dX3_init_45 : decode cX3_init 45 = .ok (.iload_n 1, 1) := by decide +kernel
theorem dX3_init_46 : decode cX3_init 46 = .ok (.bipush 32, 2) := by decide +kernel
theorem dX3_init_48 : decode cX3_init 48 = .ok (.if_icmp .ge 19, 3) := by decide +kernel
theorem dX3_init_51 : decode cX3_init 51 = .ok (.aload_n 0, 1) := by decide +kernel
theorem dX3_init_52 : decode cX3_init 52 = .ok (.getfield 7, 3) := by decide +kernel
theorem dX3_init_55 : decode cX3_init 55 = .ok (.bipush 27, 2) := by decide +kernel
theorem dX3_init_57 : decode cX3_init 57 = .ok (.iload_n 1, 1) := by decide +kernel
theorem dX3_init_58 : decode cX3_init 58 = .ok (.iadd, 1) := by decide +kernel
theorem dX3_init_59 : decode cX3_init 59 = .ok (.iconst (-1), 1) := by decide +kernel
theorem dX3_init_60 : decode cX3_init 60 = .ok (.iastore, 1) := by decide +kernel
theorem dX3_init_61 : decode cX3_init 61 = .ok (.iinc 1 1, 3) := by decide +kernel
theorem dX3_init_64 : decode cX3_init 64 = .ok (.goto (-19), 3) := by decide +kernel
theorem dX3_init_67 : decode cX3_init 67 = .ok (.return_, 1) := by decide +kernel
theorem dX3_thrown_0 : decode cX3_thrown 0 = .ok (.aload_n 0, 1) := by decide +kernel
theorem dX3_thrown_1 : decode cX3_thrown 1 = .ok (.getfield 16, 3) := by decide +kernel
theorem dX3_thrown_4 : decode cX3_thrown 4 = .ok (.ireturn, 1) := by decide +kernel
theorem dX3_in_0 : decode cX3_in 0 = .ok (.iload_n 0, 1) := by decide +kernel
theorem dX3_in_1 : decode cX3_in 1 = .ok (.iload_n 1, 1) := by decide +kernel
theorem dX3_in_2 : decode cX3_in 2 = .ok (.if_icmp .lt 12, 3) := by decide +kernel
theorem dX3_in_5 : decode cX3_in 5 = .ok (.iload_n 0, 1) := by decide +kernel
theorem dX3_in_6 : decode cX3_in 6 = .ok (.iload_n 2, 1) := by decide +kernel
theorem dX3_in_7 : decode cX3_in 7 = .ok (.if_icmp .gt 7, 3) := by decide +kernel
theorem dX3_in_10 : decode cX3_in 10 = .ok (.iconst 1, 1) := by decide +kernel
theorem dX3_in_11 : decode cX3_in 11 = .ok (.goto 4, 3) := by decide +kernel
theorem dX3_in_14 : decode cX3_in 14 = .ok (.iconst 0, 1) := by decide +kernel
theorem dX3_in_15 : decode cX3_in 15 = .ok (.ireturn, 1) := by decide +kernel
theorem dX3_holds_0 : decode cX3_holds 0 = .ok (.aload_n 0, 1) := by decide +kernel
theorem dX3_holds_1 : decode cX3_holds 1 = .ok (.iload_n 1, 1) := by decide +kernel
theorem dX3_holds_2 : decode cX3_holds 2 = .ok (.putfield 16, 3) := by decide +kernel
theorem dX3_holds_5 : decode cX3_holds 5 = .ok (.iload_n 1, 1) := by decide +kernel
theorem dX3_holds_6 : decode cX3_holds 6 = .ok (.ifCond .ne 7, 3) := by decide +kernel
theorem dX3_holds_9 : decode cX3_holds 9 = .ok (.iconst 1, 1) := by decide +kernel
theorem dX3_holds_10 : decode cX3_holds 10 = .ok (.goto 4, 3) := by decide +kernel
theorem dX3_holds_13 : decode cX3_holds 13 = .ok (.iconst 0, 1) := by decide +kernel
theorem dX3_holds_14 : decode cX3_holds 14 = .ok (.ireturn, 1) := by decide +kernel
theorem dX3_told_0 : decode cX3_told 0 = .ok (.aload_n 0, 1) := by decide +kernel
theorem dX3_told_1 : decode cX3_told 1 = .ok (.iconst 0, 1) := by decide +kernel
theorem dX3_told_2 : decode cX3_told 2 = .ok (.putfield 16, 3) := by decide +kernel
theorem dX3_told_5 : decode cX3_told 5 = .ok (.iload_n 1, 1) := by decide +kernel
theorem dX3_told_6 : decode cX3_told 6 = .ok (.ireturn, 1) := by decide +kernel
theorem dX3_isRecording_0 : decode cX3_isRecording 0 = .ok (.iload_n 1, 1) := by decide +kernel
theorem dX3_isRecording_1 : decode cX3_isRecording 1 = .ok (.iconst 0, 1) := by decide +kernel
theorem dX3_isRecording_2 : decode cX3_isRecording 2 = .ok (.aload_n 0, 1) := by decide +kernel
theorem dX3_isRecording_3 : decode cX3_isRecording 3 = .ok (.getfield 7, 3) := by decide +kernel
theorem dX3_isRecording_6 : decode cX3_isRecording 6 = .ok (.iconst 0, 1) := by decide +kernel
theorem dX3_isRecording_7 : decode cX3_isRecording 7 = .ok (.iaload, 1) := by decide +kernel
theorem dX3_isRecording_8 : decode cX3_isRecording 8 = .ok (.iconst 1, 1) := by decide +kernel
theorem dX3_isRecording_9 : decode cX3_isRecording 9 = .ok (.isub, 1) := by decide +kernel
theorem dX3_isRecording_10 : decode cX3_isRecording 10 = .ok (.invokestatic 20, 3) := by decide +kernel
theorem dX3_isRecording_13 : decode cX3_isRecording 13 = .ok (.ireturn, 1) := by decide +kernel
theorem dX3_isCell_0 : decode cX3_isCell 0 = .ok (.iload_n 0, 1) := by decide +kernel
theorem dX3_isCell_1 : decode cX3_isCell 1 = .ok (.iconst 0, 1) := by decide +kernel
theorem dX3_isCell_2 : decode cX3_isCell 2 = .ok (.bipush 31, 2) := by decide +kernel
theorem dX3_isCell_4 : decode cX3_isCell 4 = .ok (.invokestatic 20, 3) := by decide +kernel
theorem dX3_isCell_7 : decode cX3_isCell 7 = .ok (.ireturn, 1) := by decide +kernel
theorem dX3_cells_0 : decode cX3_cells 0 = .ok (.iconst 0, 1) := by decide +kernel
theorem dX3_cells_1 : decode cX3_cells 1 = .ok (.istore_n 2, 1) := by decide +kernel
theorem dX3_cells_2 : decode cX3_cells 2 = .ok (.iconst 0, 1) := by decide +kernel
theorem dX3_cells_3 : decode cX3_cells 3 = .ok (.istore_n 3, 1) := by decide +kernel
theorem dX3_cells_4 : decode cX3_cells 4 = .ok (.iload_n 3, 1) := by decide +kernel
theorem dX3_cells_5 : decode cX3_cells 5 = .ok (.bipush 32, 2) := by decide +kernel
theorem dX3_cells_7 : decode cX3_cells 7 = .ok (.if_icmp .ge 30, 3) := by decide +kernel
theorem dX3_cells_10 : decode cX3_cells 10 = .ok (.iload_n 2, 1) := by decide +kernel
theorem dX3_cells_11 : decode cX3_cells 11 = .ok (.aload_n 0, 1) := by decide +kernel
theorem dX3_cells_12 : decode cX3_cells 12 = .ok (.getfield 7, 3) := by decide +kernel
theorem dX3_cells_15 : decode cX3_cells 15 = .ok (.bipush 27, 2) := by decide +kernel
theorem dX3_cells_17 : decode cX3_cells 17 = .ok (.iload_n 3, 1) := by decide +kernel
theorem dX3_cells_18 : decode cX3_cells 18 = .ok (.iadd, 1) := by decide +kernel
theorem dX3_cells_19 : decode cX3_cells 19 = .ok (.iaload, 1) := by decide +kernel
theorem dX3_cells_20 : decode cX3_cells 20 = .ok (.iload_n 1, 1) := by decide +kernel
theorem dX3_cells_21 : decode cX3_cells 21 = .ok (.if_icmp .ne 7, 3) := by decide +kernel
theorem dX3_cells_24 : decode cX3_cells 24 = .ok (.iconst 1, 1) := by decide +kernel
theorem dX3_cells_25 : decode cX3_cells 25 = .ok (.goto 4, 3) := by decide +kernel
theorem dX3_cells_28 : decode cX3_cells 28 = .ok (.iconst 0, 1) := by decide +kernel
theorem dX3_cells_29 : decode cX3_cells 29 = .ok (.iadd, 1) := by decide +kernel
theorem dX3_cells_30 : decode cX3_cells 30 = .ok (.istore_n 2, 1) := by decide +kernel
theorem dX3_cells_31 : decode cX3_cells 31 = .ok (.iinc 3 1, 3) := by decide +kernel
theorem dX3_cells_34 : decode cX3_cells 34 = .ok (.goto (-30), 3) := by decide +kernel
theorem dX3_cells_37 : decode cX3_cells 37 = .ok (.iload_n 2, 1) := by decide +kernel
theorem dX3_cells_38 : decode cX3_cells 38 = .ok (.ireturn, 1) := by decide +kernel
theorem dX3_placeOf_0 : decode cX3_placeOf 0 = .ok (.iconst 0, 1) := by decide +kernel
theorem dX3_placeOf_1 : decode cX3_placeOf 1 = .ok (.istore_n 2, 1) := by decide +kernel
theorem dX3_placeOf_2 : decode cX3_placeOf 2 = .ok (.iconst 0, 1) := by decide +kernel
theorem dX3_placeOf_3 : decode cX3_placeOf 3 = .ok (.istore_n 3, 1) := by decide +kernel
theorem dX3_placeOf_4 : decode cX3_placeOf 4 = .ok (.iload_n 3, 1) := by decide +kernel
theorem dX3_placeOf_5 : decode cX3_placeOf 5 = .ok (.bipush 32, 2) := by decide +kernel
theorem dX3_placeOf_7 : decode cX3_placeOf 7 = .ok (.if_icmp .ge 59, 3) := by decide +kernel
theorem dX3_placeOf_10 : decode cX3_placeOf 10 = .ok (.iload_n 2, 1) := by decide +kernel
theorem dX3_placeOf_11 : decode cX3_placeOf 11 = .ok (.aload_n 0, 1) := by decide +kernel
theorem dX3_placeOf_12 : decode cX3_placeOf 12 = .ok (.getfield 7, 3) := by decide +kernel
theorem dX3_placeOf_15 : decode cX3_placeOf 15 = .ok (.bipush 27, 2) := by decide +kernel
theorem dX3_placeOf_17 : decode cX3_placeOf 17 = .ok (.iload_n 3, 1) := by decide +kernel
theorem dX3_placeOf_18 : decode cX3_placeOf 18 = .ok (.iadd, 1) := by decide +kernel
theorem dX3_placeOf_19 : decode cX3_placeOf 19 = .ok (.iaload, 1) := by decide +kernel
theorem dX3_placeOf_20 : decode cX3_placeOf 20 = .ok (.aload_n 0, 1) := by decide +kernel
theorem dX3_placeOf_21 : decode cX3_placeOf 21 = .ok (.getfield 7, 3) := by decide +kernel
theorem dX3_placeOf_24 : decode cX3_placeOf 24 = .ok (.bipush 27, 2) := by decide +kernel
theorem dX3_placeOf_26 : decode cX3_placeOf 26 = .ok (.iload_n 1, 1) := by decide +kernel
theorem dX3_placeOf_27 : decode cX3_placeOf 27 = .ok (.iadd, 1) := by decide +kernel
theorem dX3_placeOf_28 : decode cX3_placeOf 28 = .ok (.iaload, 1) := by decide +kernel
theorem dX3_placeOf_29 : decode cX3_placeOf 29 = .ok (.if_icmp .ne 28, 3) := by decide +kernel
theorem dX3_placeOf_32 : decode cX3_placeOf 32 = .ok (.aload_n 0, 1) := by decide +kernel
theorem dX3_placeOf_33 : decode cX3_placeOf 33 = .ok (.getfield 7, 3) := by decide +kernel
theorem dX3_placeOf_36 : decode cX3_placeOf 36 = .ok (.bipush 123, 2) := by decide +kernel
theorem dX3_placeOf_38 : decode cX3_placeOf 38 = .ok (.iload_n 3, 1) := by decide +kernel
theorem dX3_placeOf_39 : decode cX3_placeOf 39 = .ok (.iadd, 1) := by decide +kernel
theorem dX3_placeOf_40 : decode cX3_placeOf 40 = .ok (.iaload, 1) := by decide +kernel
theorem dX3_placeOf_41 : decode cX3_placeOf 41 = .ok (.aload_n 0, 1) := by decide +kernel
theorem dX3_placeOf_42 : decode cX3_placeOf 42 = .ok (.getfield 7, 3) := by decide +kernel
theorem dX3_placeOf_45 : decode cX3_placeOf 45 = .ok (.bipush 123, 2) := by decide +kernel
theorem dX3_placeOf_47 : decode cX3_placeOf 47 = .ok (.iload_n 1, 1) := by decide +kernel
theorem dX3_placeOf_48 : decode cX3_placeOf 48 = .ok (.iadd, 1) := by decide +kernel
theorem dX3_placeOf_49 : decode cX3_placeOf 49 = .ok (.iaload, 1) := by decide +kernel
theorem dX3_placeOf_50 : decode cX3_placeOf 50 = .ok (.if_icmp .ge 7, 3) := by decide +kernel
theorem dX3_placeOf_53 : decode cX3_placeOf 53 = .ok (.iconst 1, 1) := by decide +kernel
theorem dX3_placeOf_54 : decode cX3_placeOf 54 = .ok (.goto 4, 3) := by decide +kernel
theorem dX3_placeOf_57 : decode cX3_placeOf 57 = .ok (.iconst 0, 1) := by decide +kernel
theorem dX3_placeOf_58 : decode cX3_placeOf 58 = .ok (.iadd, 1) := by decide +kernel
theorem dX3_placeOf_59 : decode cX3_placeOf 59 = .ok (.istore_n 2, 1) := by decide +kernel
theorem dX3_placeOf_60 : decode cX3_placeOf 60 = .ok (.iinc 3 1, 3) := by decide +kernel
theorem dX3_placeOf_63 : decode cX3_placeOf 63 = .ok (.goto (-59), 3) := by decide +kernel
theorem dX3_placeOf_66 : decode cX3_placeOf 66 = .ok (.iload_n 2, 1) := by decide +kernel
theorem dX3_placeOf_67 : decode cX3_placeOf 67 = .ok (.ireturn, 1) := by decide +kernel
theorem dX3_cellAt_0 : decode cX3_cellAt 0 = .ok (.iconst 0, 1) := by decide +kernel
theorem dX3_cellAt_1 : decode cX3_cellAt 1 = .ok (.istore_n 3, 1) := by decide +kernel
theorem dX3_cellAt_2 : decode cX3_cellAt 2 = .ok (.iload_n 3, 1) := by decide +kernel
theorem dX3_cellAt_3 : decode cX3_cellAt 3 = .ok (.bipush 32, 2) := by decide +kernel
theorem dX3_cellAt_5 : decode cX3_cellAt 5 = .ok (.if_icmp .ge 33, 3) := by decide +kernel
theorem dX3_cellAt_8 : decode cX3_cellAt 8 = .ok (.aload_n 0, 1) := by decide +kernel
theorem dX3_cellAt_9 : decode cX3_cellAt 9 = .ok (.getfield 7, 3) := by decide +kernel
theorem dX3_cellAt_12 : decode cX3_cellAt 12 = .ok (.bipush 27, 2) := by decide +kernel
theorem dX3_cellAt_14 : decode cX3_cellAt 14 = .ok (.iload_n 3, 1) := by decide +kernel
theorem dX3_cellAt_15 : decode cX3_cellAt 15 = .ok (.iadd, 1) := by decide +kernel
theorem dX3_cellAt_16 : decode cX3_cellAt 16 = .ok (.iaload, 1) := by decide +kernel
theorem dX3_cellAt_17 : decode cX3_cellAt 17 = .ok (.iload_n 1, 1) := by decide +kernel
theorem dX3_cellAt_18 : decode cX3_cellAt 18 = .ok (.if_icmp .ne 14, 3) := by decide +kernel
theorem dX3_cellAt_21 : decode cX3_cellAt 21 = .ok (.aload_n 0, 1) := by decide +kernel
theorem dX3_cellAt_22 : decode cX3_cellAt 22 = .ok (.iload_n 3, 1) := by decide +kernel
theorem dX3_cellAt_23 : decode cX3_cellAt 23 = .ok (.invokevirtual 24, 3) := by decide +kernel
theorem dX3_cellAt_26 : decode cX3_cellAt 26 = .ok (.iload_n 2, 1) := by decide +kernel
theorem dX3_cellAt_27 : decode cX3_cellAt 27 = .ok (.if_icmp .ne 5, 3) := by decide +kernel
theorem dX3_cellAt_30 : decode cX3_cellAt 30 = .ok (.iload_n 3, 1) := by decide +kernel
theorem dX3_cellAt_31 : decode cX3_cellAt 31 = .ok (.ireturn, 1) := by decide +kernel
theorem dX3_cellAt_32 : decode cX3_cellAt 32 = .ok (.iinc 3 1, 3) := by decide +kernel
theorem dX3_cellAt_35 : decode cX3_cellAt 35 = .ok (.goto (-33), 3) := by decide +kernel
theorem dX3_cellAt_38 : decode cX3_cellAt 38 = .ok (.iconst (-1), 1) := by decide +kernel
theorem dX3_cellAt_39 : decode cX3_cellAt 39 = .ok (.ireturn, 1) := by decide +kernel
theorem dX3_isWritable_0 : decode cX3_isWritable 0 = .ok (.aload_n 0, 1) := by decide +kernel
theorem dX3_isWritable_1 : decode cX3_isWritable 1 = .ok (.getfield 7, 3) := by decide +kernel
theorem dX3_isWritable_4 : decode cX3_isWritable 4 = .ok (.bipush 27, 2) := by decide +kernel
theorem dX3_isWritable_6 : decode cX3_isWritable 6 = .ok (.iload_n 1, 1) := by decide +kernel
theorem dX3_isWritable_7 : decode cX3_isWritable 7 = .ok (.iadd, 1) := by decide +kernel
theorem dX3_isWritable_8 : decode cX3_isWritable 8 = .ok (.iaload, 1) := by decide +kernel
theorem dX3_isWritable_9 : decode cX3_isWritable 9 = .ok (.istore_n 2, 1) := by decide +kernel
theorem dX3_isWritable_10 : decode cX3_isWritable 10 = .ok (.iload_n 2, 1) := by decide +kernel
theorem dX3_isWritable_11 : decode cX3_isWritable 11 = .ok (.iconst (-1), 1) := by decide +kernel
theorem dX3_isWritable_12 : decode cX3_isWritable 12 = .ok (.if_icmp .eq 25, 3) := by decide +kernel
theorem dX3_isWritable_15 : decode cX3_isWritable 15 = .ok (.iload_n 2, 1) := by decide +kernel
theorem dX3_isWritable_16 : decode cX3_isWritable 16 = .ok (.aload_n 0, 1) := by decide +kernel
theorem dX3_isWritable_17 : decode cX3_isWritable 17 = .ok (.getfield 7, 3) := by decide +kernel
theorem dX3_isWritable_20 : decode cX3_isWritable 20 = .ok (.iconst 1, 1) := by decide +kernel
theorem dX3_isWritable_21 : decode cX3_isWritable 21 = .ok (.iaload, 1) := by decide +kernel
theorem dX3_isWritable_22 : decode cX3_isWritable 22 = .ok (.if_icmp .eq 19, 3) := by decide +kernel
theorem dX3_isWritable_25 : decode cX3_isWritable 25 = .ok (.aload_n 0, 1) := by decide +kernel
theorem dX3_isWritable_26 : decode cX3_isWritable 26 = .ok (.getfield 7, 3) := by decide +kernel
theorem dX3_isWritable_29 : decode cX3_isWritable 29 = .ok (.bipush 7, 2) := by decide +kernel
theorem dX3_isWritable_31 : decode cX3_isWritable 31 = .ok (.iload_n 2, 1) := by decide +kernel
theorem dX3_isWritable_32 : decode cX3_isWritable 32 = .ok (.iadd, 1) := by decide +kernel
theorem dX3_isWritable_33 : decode cX3_isWritable 33 = .ok (.iaload, 1) := by decide +kernel
theorem dX3_isWritable_34 : decode cX3_isWritable 34 = .ok (.ifCond .ne 7, 3) := by decide +kernel
theorem dX3_isWritable_37 : decode cX3_isWritable 37 = .ok (.iconst 1, 1) := by decide +kernel
theorem dX3_isWritable_38 : decode cX3_isWritable 38 = .ok (.goto 4, 3) := by decide +kernel
theorem dX3_isWritable_41 : decode cX3_isWritable 41 = .ok (.iconst 0, 1) := by decide +kernel
theorem dX3_isWritable_42 : decode cX3_isWritable 42 = .ok (.ireturn, 1) := by decide +kernel
theorem dX3_writable_0 : decode cX3_writable 0 = .ok (.iconst 0, 1) := by decide +kernel
theorem dX3_writable_1 : decode cX3_writable 1 = .ok (.istore_n 1, 1) := by decide +kernel
theorem dX3_writable_2 : decode cX3_writable 2 = .ok (.iconst 0, 1) := by decide +kernel
theorem dX3_writable_3 : decode cX3_writable 3 = .ok (.istore_n 2, 1) := by decide +kernel
theorem dX3_writable_4 : decode cX3_writable 4 = .ok (.iload_n 2, 1) := by decide +kernel
theorem dX3_writable_5 : decode cX3_writable 5 = .ok (.bipush 32, 2) := by decide +kernel
theorem dX3_writable_7 : decode cX3_writable 7 = .ok (.if_icmp .ge 25, 3) := by decide +kernel
theorem dX3_writable_10 : decode cX3_writable 10 = .ok (.iload_n 1, 1) := by decide +kernel
theorem dX3_writable_11 : decode cX3_writable 11 = .ok (.aload_n 0, 1) := by decide +kernel
theorem dX3_writable_12 : decode cX3_writable 12 = .ok (.iload_n 2, 1) := by decide +kernel
theorem dX3_writable_13 : decode cX3_writable 13 = .ok (.invokevirtual 28, 3) := by decide +kernel
theorem dX3_writable_16 : decode cX3_writable 16 = .ok (.ifCond .eq 7, 3) := by decide +kernel
theorem dX3_writable_19 : decode cX3_writable 19 = .ok (.iconst 1, 1) := by decide +kernel
theorem dX3_writable_20 : decode cX3_writable 20 = .ok (.goto 4, 3) := by decide +kernel
theorem dX3_writable_23 : decode cX3_writable 23 = .ok (.iconst 0, 1) := by decide +kernel
theorem dX3_writable_24 : decode cX3_writable 24 = .ok (.iadd, 1) := by decide +kernel
theorem dX3_writable_25 : decode cX3_writable 25 = .ok (.istore_n 1, 1) := by decide +kernel
theorem dX3_writable_26 : decode cX3_writable 26 = .ok (.iinc 2 1, 3) := by decide +kernel
theorem dX3_writable_29 : decode cX3_writable 29 = .ok (.goto (-25), 3) := by decide +kernel
theorem dX3_writable_32 : decode cX3_writable 32 = .ok (.iload_n 1, 1) := by decide +kernel
theorem dX3_writable_33 : decode cX3_writable 33 = .ok (.ireturn, 1) := by decide +kernel
theorem dX3_leaves_0 : decode cX3_leaves 0 = .ok (.iconst 0, 1) := by decide +kernel
theorem dX3_leaves_1 : decode cX3_leaves 1 = .ok (.istore_n 2, 1) := by decide +kernel
theorem dX3_leaves_2 : decode cX3_leaves 2 = .ok (.iload_n 2, 1) := by decide +kernel
theorem dX3_leaves_3 : decode cX3_leaves 3 = .ok (.bipush 32, 2) := by decide +kernel
theorem dX3_leaves_5 : decode cX3_leaves 5 = .ok (.if_icmp .ge 49, 3) := by decide +kernel
theorem dX3_leaves_8 : decode cX3_leaves 8 = .ok (.aload_n 0, 1) := by decide +kernel
theorem dX3_leaves_9 : decode cX3_leaves 9 = .ok (.getfield 7, 3) := by decide +kernel
theorem dX3_leaves_12 : decode cX3_leaves 12 = .ok (.bipush 27, 2) := by decide +kernel
theorem dX3_leaves_14 : decode cX3_leaves 14 = .ok (.iload_n 2, 1) := by decide +kernel
theorem dX3_leaves_15 : decode cX3_leaves 15 = .ok (.iadd, 1) := by decide +kernel
theorem dX3_leaves_16 : decode cX3_leaves 16 = .ok (.iaload, 1) := by decide +kernel
theorem dX3_leaves_17 : decode cX3_leaves 17 = .ok (.istore_n 3, 1) := by decide +kernel
theorem dX3_leaves_18 : decode cX3_leaves 18 = .ok (.aload_n 0, 1) := by decide +kernel
theorem dX3_leaves_19 : decode cX3_leaves 19 = .ok (.getfield 7, 3) := by decide +kernel
theorem dX3_leaves_22 : decode cX3_leaves 22 = .ok (.bipush 27, 2) := by decide +kernel
theorem dX3_leaves_24 : decode cX3_leaves 24 = .ok (.iload_n 2, 1) := by decide +kernel
theorem dX3_leaves_25 : decode cX3_leaves 25 = .ok (.iadd, 1) := by decide +kernel
theorem dX3_leaves_26 : decode cX3_leaves 26 = .ok (.iload_n 3, 1) := by decide +kernel
theorem dX3_leaves_27 : decode cX3_leaves 27 = .ok (.iload_n 1, 1) := by decide +kernel
theorem dX3_leaves_28 : decode cX3_leaves 28 = .ok (.if_icmp .ne 7, 3) := by decide +kernel
theorem dX3_leaves_31 : decode cX3_leaves 31 = .ok (.iconst (-1), 1) := by decide +kernel
theorem dX3_leaves_32 : decode cX3_leaves 32 = .ok (.goto 15, 3) := by decide +kernel
theorem dX3_leaves_35 : decode cX3_leaves 35 = .ok (.iload_n 3, 1) := by decide +kernel
theorem dX3_leaves_36 : decode cX3_leaves 36 = .ok (.iload_n 1, 1) := by decide +kernel
theorem dX3_leaves_37 : decode cX3_leaves 37 = .ok (.if_icmp .le 9, 3) := by decide +kernel
theorem dX3_leaves_40 : decode cX3_leaves 40 = .ok (.iload_n 3, 1) := by decide +kernel
theorem dX3_leaves_41 : decode cX3_leaves 41 = .ok (.iconst 1, 1) := by decide +kernel
theorem dX3_leaves_42 : decode cX3_leaves 42 = .ok (.isub, 1) := by decide +kernel
theorem dX3_leaves_43 : decode cX3_leaves 43 = .ok (.goto 4, 3) := by decide +kernel
theorem dX3_leaves_46 : decode cX3_leaves 46 = .ok (.iload_n 3, 1) := by decide +kernel
theorem dX3_leaves_47 : decode cX3_leaves 47 = .ok (.iastore, 1) := by decide +kernel
theorem dX3_leaves_48 : decode cX3_leaves 48 = .ok (.iinc 2 1, 3) := by decide +kernel
theorem dX3_leaves_51 : decode cX3_leaves 51 = .ok (.goto (-49), 3) := by decide +kernel
theorem dX3_leaves_54 : decode cX3_leaves 54 = .ok (.aload_n 0, 1) := by decide +kernel
theorem dX3_leaves_55 : decode cX3_leaves 55 = .ok (.getfield 7, 3) := by decide +kernel
theorem dX3_leaves_58 : decode cX3_leaves 58 = .ok (.iconst 0, 1) := by decide +kernel
theorem dX3_leaves_59 : decode cX3_leaves 59 = .ok (.dup2, 1) := by decide +kernel
theorem dX3_leaves_60 : decode cX3_leaves 60 = .ok (.iaload, 1) := by decide +kernel
theorem dX3_leaves_61 : decode cX3_leaves 61 = .ok (.iconst 1, 1) := by decide +kernel
theorem dX3_leaves_62 : decode cX3_leaves 62 = .ok (.isub, 1) := by decide +kernel
theorem dX3_leaves_63 : decode cX3_leaves 63 = .ok (.iastore, 1) := by decide +kernel
theorem dX3_leaves_64 : decode cX3_leaves 64 = .ok (.iload_n 1, 1) := by decide +kernel
theorem dX3_leaves_65 : decode cX3_leaves 65 = .ok (.istore_n 2, 1) := by decide +kernel
theorem dX3_leaves_66 : decode cX3_leaves 66 = .ok (.iload_n 2, 1) := by decide +kernel
theorem dX3_leaves_67 : decode cX3_leaves 67 = .ok (.aload_n 0, 1) := by decide +kernel
theorem dX3_leaves_68 : decode cX3_leaves 68 = .ok (.getfield 7, 3) := by decide +kernel
theorem dX3_leaves_71 : decode cX3_leaves 71 = .ok (.iconst 0, 1) := by decide +kernel
theorem dX3_leaves_72 : decode cX3_leaves 72 = .ok (.iaload, 1) := by decide +kernel
theorem dX3_leaves_73 : decode cX3_leaves 73 = .ok (.if_icmp .ge 49, 3) := by decide +kernel
theorem dX3_leaves_76 : decode cX3_leaves 76 = .ok (.aload_n 0, 1) := by decide +kernel
theorem dX3_leaves_77 : decode cX3_leaves 77 = .ok (.getfield 7, 3) := by decide +kernel
theorem dX3_leaves_80 : decode cX3_leaves 80 = .ok (.bipush 7, 2) := by decide +kernel
theorem dX3_leaves_82 : decode cX3_leaves 82 = .ok (.iload_n 2, 1) := by decide +kernel
theorem dX3_leaves_83 : decode cX3_leaves 83 = .ok (.iadd, 1) := by decide +kernel
theorem dX3_leaves_84 : decode cX3_leaves 84 = .ok (.aload_n 0, 1) := by decide +kernel
theorem dX3_leaves_85 : decode cX3_leaves 85 = .ok (.getfield 7, 3) := by decide +kernel
theorem dX3_leaves_88 : decode cX3_leaves 88 = .ok (.bipush 7, 2) := by decide +kernel
theorem dX3_leaves_90 : decode cX3_leaves 90 = .ok (.iload_n 2, 1) := by decide +kernel
theorem dX3_leaves_91 : decode cX3_leaves 91 = .ok (.iadd, 1) := by decide +kernel
theorem dX3_leaves_92 : decode cX3_leaves 92 = .ok (.iconst 1, 1) := by decide +kernel
theorem dX3_leaves_93 : decode cX3_leaves 93 = .ok (.iadd, 1) := by decide +kernel
theorem dX3_leaves_94 : decode cX3_leaves 94 = .ok (.iaload, 1) := by decide +kernel
theorem dX3_leaves_95 : decode cX3_leaves 95 = .ok (.iastore, 1) := by decide +kernel
theorem dX3_leaves_96 : decode cX3_leaves 96 = .ok (.aload_n 0, 1) := by decide +kernel
theorem dX3_leaves_97 : decode cX3_leaves 97 = .ok (.getfield 7, 3) := by decide +kernel
theorem dX3_leaves_100 : decode cX3_leaves 100 = .ok (.bipush 17, 2) := by decide +kernel
theorem dX3_leaves_102 : decode cX3_leaves 102 = .ok (.iload_n 2, 1) := by decide +kernel
theorem dX3_leaves_103 : decode cX3_leaves 103 = .ok (.iadd, 1) := by decide +kernel
theorem dX3_leaves_104 : decode cX3_leaves 104 = .ok (.aload_n 0, 1) := by decide +kernel
theorem dX3_leaves_105 : decode cX3_leaves 105 = .ok (.getfield 7, 3) := by decide +kernel
theorem dX3_leaves_108 : decode cX3_leaves 108 = .ok (.bipush 17, 2) := by decide +kernel
theorem dX3_leaves_110 : decode cX3_leaves 110 = .ok (.iload_n 2, 1) := by decide +kernel
theorem dX3_leaves_111 : decode cX3_leaves 111 = .ok (.iadd, 1) := by decide +kernel
theorem dX3_leaves_112 : decode cX3_leaves 112 = .ok (.iconst 1, 1) := by decide +kernel
theorem dX3_leaves_113 : decode cX3_leaves 113 = .ok (.iadd, 1) := by decide +kernel
theorem dX3_leaves_114 : decode cX3_leaves 114 = .ok (.iaload, 1) := by decide +kernel
theorem dX3_leaves_115 : decode cX3_leaves 115 = .ok (.iastore, 1) := by decide +kernel
theorem dX3_leaves_116 : decode cX3_leaves 116 = .ok (.iinc 2 1, 3) := by decide +kernel
theorem dX3_leaves_119 : decode cX3_leaves 119 = .ok (.goto (-53), 3) := by decide +kernel
theorem dX3_leaves_122 : decode cX3_leaves 122 = .ok (.aload_n 0, 1) := by decide +kernel
theorem dX3_leaves_123 : decode cX3_leaves 123 = .ok (.getfield 7, 3) := by decide +kernel
theorem dX3_leaves_126 : decode cX3_leaves 126 = .ok (.iconst 1, 1) := by decide +kernel
theorem dX3_leaves_127 : decode cX3_leaves 127 = .ok (.aload_n 0, 1) := by decide +kernel
theorem dX3_leaves_128 : decode cX3_leaves 128 = .ok (.getfield 7, 3) := by decide +kernel
theorem dX3_leaves_131 : decode cX3_leaves 131 = .ok (.iconst 1, 1) := by decide +kernel
theorem dX3_leaves_132 : decode cX3_leaves 132 = .ok (.iaload, 1) := by decide +kernel
theorem dX3_leaves_133 : decode cX3_leaves 133 = .ok (.iload_n 1, 1) := by decide +kernel
theorem dX3_leaves_134 : decode cX3_leaves 134 = .ok (.if_icmp .ne 7, 3) := by decide +kernel
theorem dX3_leaves_137 : decode cX3_leaves 137 = .ok (.iconst (-1), 1) := by decide +kernel
theorem dX3_leaves_138 : decode cX3_leaves 138 = .ok (.goto 30, 3) := by decide +kernel
theorem dX3_leaves_141 : decode cX3_leaves 141 = .ok (.aload_n 0, 1) := by decide +kernel
theorem dX3_leaves_142 : decode cX3_leaves 142 = .ok (.getfield 7, 3) := by decide +kernel
theorem dX3_leaves_145 : decode cX3_leaves 145 = .ok (.iconst 1, 1) := by decide +kernel
theorem dX3_leaves_146 : decode cX3_leaves 146 = .ok (.iaload, 1) := by decide +kernel
theorem dX3_leaves_147 : decode cX3_leaves 147 = .ok (.iload_n 1, 1) := by decide +kernel
theorem dX3_leaves_148 : decode cX3_leaves 148 = .ok (.if_icmp .le 14, 3) := by decide +kernel
theorem dX3_leaves_151 : decode cX3_leaves 151 = .ok (.aload_n 0, 1) := by decide +kernel
theorem dX3_leaves_152 : decode cX3_leaves 152 = .ok (.getfield 7, 3) := by decide +kernel
theorem dX3_leaves_155 : decode cX3_leaves 155 = .ok (.iconst 1, 1) := by decide +kernel
theorem dX3_leaves_156 : decode cX3_leaves 156 = .ok (.iaload, 1) := by decide +kernel
theorem dX3_leaves_157 : decode cX3_leaves 157 = .ok (.iconst 1, 1) := by decide +kernel
theorem dX3_leaves_158 : decode cX3_leaves 158 = .ok (.isub, 1) := by decide +kernel
theorem dX3_leaves_159 : decode cX3_leaves 159 = .ok (.goto 9, 3) := by decide +kernel
theorem dX3_leaves_162 : decode cX3_leaves 162 = .ok (.aload_n 0, 1) := by decide +kernel
theorem dX3_leaves_163 : decode cX3_leaves 163 = .ok (.getfield 7, 3) := by decide +kernel
theorem dX3_leaves_166 : decode cX3_leaves 166 = .ok (.iconst 1, 1) := by decide +kernel
theorem dX3_leaves_167 : decode cX3_leaves 167 = .ok (.iaload, 1) := by decide +kernel
theorem dX3_leaves_168 : decode cX3_leaves 168 = .ok (.iastore, 1) := by decide +kernel
theorem dX3_leaves_169 : decode cX3_leaves 169 = .ok (.aload_n 0, 1) := by decide +kernel
theorem dX3_leaves_170 : decode cX3_leaves 170 = .ok (.getfield 7, 3) := by decide +kernel
theorem dX3_leaves_173 : decode cX3_leaves 173 = .ok (.bipush 6, 2) := by decide +kernel
theorem dX3_leaves_175 : decode cX3_leaves 175 = .ok (.aload_n 0, 1) := by decide +kernel
theorem dX3_leaves_176 : decode cX3_leaves 176 = .ok (.getfield 7, 3) := by decide +kernel
theorem dX3_leaves_179 : decode cX3_leaves 179 = .ok (.iconst 5, 1) := by decide +kernel
theorem dX3_leaves_180 : decode cX3_leaves 180 = .ok (.iaload, 1) := by decide +kernel
theorem dX3_leaves_181 : decode cX3_leaves 181 = .ok (.iload_n 1, 1) := by decide +kernel
theorem dX3_leaves_182 : decode cX3_leaves 182 = .ok (.if_icmp .ne 7, 3) := by decide +kernel
theorem dX3_leaves_185 : decode cX3_leaves 185 = .ok (.iconst (-1), 1) := by decide +kernel
theorem dX3_leaves_186 : decode cX3_leaves 186 = .ok (.goto 10, 3) := by decide +kernel
theorem dX3_leaves_189 : decode cX3_leaves 189 = .ok (.aload_n 0, 1) := by decide +kernel
theorem dX3_leaves_190 : decode cX3_leaves 190 = .ok (.getfield 7, 3) := by decide +kernel
theorem dX3_leaves_193 : decode cX3_leaves 193 = .ok (.bipush 6, 2) := by decide +kernel
theorem dX3_leaves_195 : decode cX3_leaves 195 = .ok (.iaload, 1) := by decide +kernel
theorem dX3_leaves_196 : decode cX3_leaves 196 = .ok (.iastore, 1) := by decide +kernel
theorem dX3_leaves_197 : decode cX3_leaves 197 = .ok (.aload_n 0, 1) := by decide +kernel
theorem dX3_leaves_198 : decode cX3_leaves 198 = .ok (.getfield 7, 3) := by decide +kernel
theorem dX3_leaves_201 : decode cX3_leaves 201 = .ok (.iconst 5, 1) := by decide +kernel
theorem dX3_leaves_202 : decode cX3_leaves 202 = .ok (.aload_n 0, 1) := by decide +kernel
theorem dX3_leaves_203 : decode cX3_leaves 203 = .ok (.getfield 7, 3) := by decide +kernel
theorem dX3_leaves_206 : decode cX3_leaves 206 = .ok (.iconst 5, 1) := by decide +kernel
theorem dX3_leaves_207 : decode cX3_leaves 207 = .ok (.iaload, 1) := by decide +kernel
theorem dX3_leaves_208 : decode cX3_leaves 208 = .ok (.iload_n 1, 1) := by decide +kernel
theorem dX3_leaves_209 : decode cX3_leaves 209 = .ok (.if_icmp .ne 7, 3) := by decide +kernel
theorem dX3_leaves_212 : decode cX3_leaves 212 = .ok (.iconst (-1), 1) := by decide +kernel
theorem dX3_leaves_213 : decode cX3_leaves 213 = .ok (.goto 30, 3) := by decide +kernel
theorem dX3_leaves_216 : decode cX3_leaves 216 = .ok (.aload_n 0, 1) := by decide +kernel
theorem dX3_leaves_217 : decode cX3_leaves 217 = .ok (.getfield 7, 3) := by decide +kernel
theorem dX3_leaves_220 : decode cX3_leaves 220 = .ok (.iconst 5, 1) := by decide +kernel
theorem dX3_leaves_221 : decode cX3_leaves 221 = .ok (.iaload, 1) := by decide +kernel
theorem dX3_leaves_222 : decode cX3_leaves 222 = .ok (.iload_n 1, 1) := by decide +kernel
theorem dX3_leaves_223 : decode cX3_leaves 223 = .ok (.if_icmp .le 14, 3) := by decide +kernel
theorem dX3_leaves_226 : decode cX3_leaves 226 = .ok (.aload_n 0, 1) := by decide +kernel
theorem dX3_leaves_227 : decode cX3_leaves 227 = .ok (.getfield 7, 3) := by decide +kernel
theorem dX3_leaves_230 : decode cX3_leaves 230 = .ok (.iconst 5, 1) := by decide +kernel
theorem dX3_leaves_231 : decode cX3_leaves 231 = .ok (.iaload, 1) := by decide +kernel
theorem dX3_leaves_232 : decode cX3_leaves 232 = .ok (.iconst 1, 1) := by decide +kernel
theorem dX3_leaves_233 : decode cX3_leaves 233 = .ok (.isub, 1) := by decide +kernel
theorem dX3_leaves_234 : decode cX3_leaves 234 = .ok (.goto 9, 3) := by decide +kernel
theorem dX3_leaves_237 : decode cX3_leaves 237 = .ok (.aload_n 0, 1) := by decide +kernel
theorem dX3_leaves_238 : decode cX3_leaves 238 = .ok (.getfield 7, 3) := by decide +kernel
theorem dX3_leaves_241 : decode cX3_leaves 241 = .ok (.iconst 5, 1) := by decide +kernel
theorem dX3_leaves_242 : decode cX3_leaves 242 = .ok (.iaload, 1) := by decide +kernel
theorem dX3_leaves_243 : decode cX3_leaves 243 = .ok (.iastore, 1) := by decide +kernel
theorem dX3_leaves_244 : decode cX3_leaves 244 = .ok (.return_, 1) := by decide +kernel
theorem dX3_loses_0 : decode cX3_loses 0 = .ok (.aload_n 0, 1) := by decide +kernel
theorem dX3_loses_1 : decode cX3_loses 1 = .ok (.getfield 7, 3) := by decide +kernel
theorem dX3_loses_4 : decode cX3_loses 4 = .ok (.bipush 27, 2) := by decide +kernel
theorem dX3_loses_6 : decode cX3_loses 6 = .ok (.iload_n 1, 1) := by decide +kernel
theorem dX3_loses_7 : decode cX3_loses 7 = .ok (.iadd, 1) := by decide +kernel
theorem dX3_loses_8 : decode cX3_loses 8 = .ok (.iaload, 1) := by decide +kernel
theorem dX3_loses_9 : decode cX3_loses 9 = .ok (.istore_n 2, 1) := by decide +kernel
theorem dX3_loses_10 : decode cX3_loses 10 = .ok (.aload_n 0, 1) := by decide +kernel
theorem dX3_loses_11 : decode cX3_loses 11 = .ok (.getfield 7, 3) := by decide +kernel
theorem dX3_loses_14 : decode cX3_loses 14 = .ok (.bipush 6, 2) := by decide +kernel
theorem dX3_loses_16 : decode cX3_loses 16 = .ok (.dup2, 1) := by decide +kernel
theorem dX3_loses_17 : decode cX3_loses 17 = .ok (.iaload, 1) := by decide +kernel
theorem dX3_loses_18 : decode cX3_loses 18 = .ok (.aload_n 0, 1) := by decide +kernel
theorem dX3_loses_19 : decode cX3_loses 19 = .ok (.getfield 7, 3) := by decide +kernel
theorem dX3_loses_22 : decode cX3_loses 22 = .ok (.iconst 5, 1) := by decide +kernel
theorem dX3_loses_23 : decode cX3_loses 23 = .ok (.iaload, 1) := by decide +kernel
theorem dX3_loses_24 : decode cX3_loses 24 = .ok (.iload_n 2, 1) := by decide +kernel
theorem dX3_loses_25 : decode cX3_loses 25 = .ok (.if_icmp .ne 22, 3) := by decide +kernel
theorem dX3_loses_28 : decode cX3_loses 28 = .ok (.aload_n 0, 1) := by decide +kernel
theorem dX3_loses_29 : decode cX3_loses 29 = .ok (.iload_n 1, 1) := by decide +kernel
theorem dX3_loses_30 : decode cX3_loses 30 = .ok (.invokevirtual 24, 3) := by decide +kernel
theorem dX3_loses_33 : decode cX3_loses 33 = .ok (.aload_n 0, 1) := by decide +kernel
theorem dX3_loses_34 : decode cX3_loses 34 = .ok (.getfield 7, 3) := by decide +kernel
theorem dX3_loses_37 : decode cX3_loses 37 = .ok (.bipush 6, 2) := by decide +kernel
theorem dX3_loses_39 : decode cX3_loses 39 = .ok (.iaload, 1) := by decide +kernel
theorem dX3_loses_40 : decode cX3_loses 40 = .ok (.if_icmp .ge 7, 3) := by decide +kernel
theorem dX3_loses_43 : decode cX3_loses 43 = .ok (.iconst 1, 1) := by decide +kernel
theorem dX3_loses_44 : decode cX3_loses 44 = .ok (.goto 4, 3) := by decide +kernel
theorem dX3_loses_47 : decode cX3_loses 47 = .ok (.iconst 0, 1) := by decide +kernel
theorem dX3_loses_48 : decode cX3_loses 48 = .ok (.isub, 1) := by decide +kernel
theorem dX3_loses_49 : decode cX3_loses 49 = .ok (.iastore, 1) := by decide +kernel
theorem dX3_loses_50 : decode cX3_loses 50 = .ok (.aload_n 0, 1) := by decide +kernel
theorem dX3_loses_51 : decode cX3_loses 51 = .ok (.getfield 7, 3) := by decide +kernel
theorem dX3_loses_54 : decode cX3_loses 54 = .ok (.bipush 27, 2) := by decide +kernel
theorem dX3_loses_56 : decode cX3_loses 56 = .ok (.iload_n 1, 1) := by decide +kernel
theorem dX3_loses_57 : decode cX3_loses 57 = .ok (.iadd, 1) := by decide +kernel
theorem dX3_loses_58 : decode cX3_loses 58 = .ok (.iconst (-1), 1) := by decide +kernel
theorem dX3_loses_59 : decode cX3_loses 59 = .ok (.iastore, 1) := by decide +kernel
theorem dX3_loses_60 : decode cX3_loses 60 = .ok (.aload_n 0, 1) := by decide +kernel
theorem dX3_loses_61 : decode cX3_loses 61 = .ok (.getfield 7, 3) := by decide +kernel
theorem dX3_loses_64 : decode cX3_loses 64 = .ok (.bipush 17, 2) := by decide +kernel
theorem dX3_loses_66 : decode cX3_loses 66 = .ok (.iload_n 2, 1) := by decide +kernel
theorem dX3_loses_67 : decode cX3_loses 67 = .ok (.iadd, 1) := by decide +kernel
theorem dX3_loses_68 : decode cX3_loses 68 = .ok (.dup2, 1) := by decide +kernel
theorem dX3_loses_69 : decode cX3_loses 69 = .ok (.iaload, 1) := by decide +kernel
theorem dX3_loses_70 : decode cX3_loses 70 = .ok (.iconst 1, 1) := by decide +kernel
theorem dX3_loses_71 : decode cX3_loses 71 = .ok (.iadd, 1) := by decide +kernel
theorem dX3_loses_72 : decode cX3_loses 72 = .ok (.iastore, 1) := by decide +kernel
theorem dX3_loses_73 : decode cX3_loses 73 = .ok (.aload_n 0, 1) := by decide +kernel
theorem dX3_loses_74 : decode cX3_loses 74 = .ok (.iload_n 2, 1) := by decide +kernel
theorem dX3_loses_75 : decode cX3_loses 75 = .ok (.invokevirtual 32, 3) := by decide +kernel
theorem dX3_loses_78 : decode cX3_loses 78 = .ok (.ifCond .ne 18, 3) := by decide +kernel
theorem dX3_loses_81 : decode cX3_loses 81 = .ok (.aload_n 0, 1) := by decide +kernel
theorem dX3_loses_82 : decode cX3_loses 82 = .ok (.iload_n 2, 1) := by decide +kernel
theorem dX3_loses_83 : decode cX3_loses 83 = .ok (.invokevirtual 35, 3) := by decide +kernel
theorem dX3_loses_86 : decode cX3_loses 86 = .ok (.aload_n 0, 1) := by decide +kernel
theorem dX3_loses_87 : decode cX3_loses 87 = .ok (.getfield 7, 3) := by decide +kernel
theorem dX3_loses_90 : decode cX3_loses 90 = .ok (.iconst 4, 1) := by decide +kernel
theorem dX3_loses_91 : decode cX3_loses 91 = .ok (.dup2, 1) := by decide +kernel
theorem dX3_loses_92 : decode cX3_loses 92 = .ok (.iaload, 1) := by decide +kernel
theorem dX3_loses_93 : decode cX3_loses 93 = .ok (.iconst 1, 1) := by decide +kernel
theorem dX3_loses_94 : decode cX3_loses 94 = .ok (.iadd, 1) := by decide +kernel
theorem dX3_loses_95 : decode cX3_loses 95 = .ok (.iastore, 1) := by decide +kernel
theorem dX3_loses_96 : decode cX3_loses 96 = .ok (.return_, 1) := by decide +kernel
theorem dX3_speaks_0 : decode cX3_speaks 0 = .ok (.aload_n 0, 1) := by decide +kernel
theorem dX3_speaks_1 : decode cX3_speaks 1 = .ok (.getfield 7, 3) := by decide +kernel
theorem dX3_speaks_4 : decode cX3_speaks 4 = .ok (.iconst 2, 1) := by decide +kernel
theorem dX3_speaks_5 : decode cX3_speaks 5 = .ok (.iaload, 1) := by decide +kernel
theorem dX3_speaks_6 : decode cX3_speaks 6 = .ok (.istore_n 2, 1) := by decide +kernel
theorem dX3_speaks_7 : decode cX3_speaks 7 = .ok (.aload_n 0, 1) := by decide +kernel
theorem dX3_speaks_8 : decode cX3_speaks 8 = .ok (.iload_n 2, 1) := by decide +kernel
theorem dX3_speaks_9 : decode cX3_speaks 9 = .ok (.invokevirtual 28, 3) := by decide +kernel
theorem dX3_speaks_12 : decode cX3_speaks 12 = .ok (.ifCond .ne 13, 3) := by decide +kernel
theorem dX3_speaks_15 : decode cX3_speaks 15 = .ok (.iload_n 2, 1) := by decide +kernel
theorem dX3_speaks_16 : decode cX3_speaks 16 = .ok (.iconst 1, 1) := by decide +kernel
theorem dX3_speaks_17 : decode cX3_speaks 17 = .ok (.iadd, 1) := by decide +kernel
theorem dX3_speaks_18 : decode cX3_speaks 18 = .ok (.bipush 32, 2) := by decide +kernel
theorem dX3_speaks_20 : decode cX3_speaks 20 = .ok (.irem, 1) := by decide +kernel
theorem dX3_speaks_21 : decode cX3_speaks 21 = .ok (.istore_n 2, 1) := by decide +kernel
theorem dX3_speaks_22 : decode cX3_speaks 22 = .ok (.goto (-15), 3) := by decide +kernel
theorem dX3_speaks_25 : decode cX3_speaks 25 = .ok (.aload_n 0, 1) := by decide +kernel
theorem dX3_speaks_26 : decode cX3_speaks 26 = .ok (.getfield 7, 3) := by decide +kernel
theorem dX3_speaks_29 : decode cX3_speaks 29 = .ok (.bipush 27, 2) := by decide +kernel
theorem dX3_speaks_31 : decode cX3_speaks 31 = .ok (.iload_n 2, 1) := by decide +kernel
theorem dX3_speaks_32 : decode cX3_speaks 32 = .ok (.iadd, 1) := by decide +kernel
theorem dX3_speaks_33 : decode cX3_speaks 33 = .ok (.iaload, 1) := by decide +kernel
theorem dX3_speaks_34 : decode cX3_speaks 34 = .ok (.iconst (-1), 1) := by decide +kernel
theorem dX3_speaks_35 : decode cX3_speaks 35 = .ok (.if_icmp .eq 8, 3) := by decide +kernel
theorem dX3_speaks_38 : decode cX3_speaks 38 = .ok (.aload_n 0, 1) := by decide +kernel
theorem dX3_speaks_39 : decode cX3_speaks 39 = .ok (.iload_n 2, 1) := by decide +kernel
theorem dX3_speaks_40 : decode cX3_speaks 40 = .ok (.invokevirtual 39, 3) := by decide +kernel
theorem dX3_speaks_43 : decode cX3_speaks 43 = .ok (.aload_n 0, 1) := by decide +kernel
theorem dX3_speaks_44 : decode cX3_speaks 44 = .ok (.getfield 7, 3) := by decide +kernel
theorem dX3_speaks_47 : decode cX3_speaks 47 = .ok (.bipush 27, 2) := by decide +kernel
theorem dX3_speaks_49 : decode cX3_speaks 49 = .ok (.iload_n 2, 1) := by decide +kernel
theorem dX3_speaks_50 : decode cX3_speaks 50 = .ok (.iadd, 1) := by decide +kernel
theorem dX3_speaks_51 : decode cX3_speaks 51 = .ok (.aload_n 0, 1) := by decide +kernel
theorem dX3_speaks_52 : decode cX3_speaks 52 = .ok (.getfield 7, 3) := by decide +kernel
theorem dX3_speaks_55 : decode cX3_speaks 55 = .ok (.iconst 1, 1) := by decide +kernel
theorem dX3_speaks_56 : decode cX3_speaks 56 = .ok (.iaload, 1) := by decide +kernel
theorem dX3_speaks_57 : decode cX3_speaks 57 = .ok (.iastore, 1) := by decide +kernel
theorem dX3_speaks_58 : decode cX3_speaks 58 = .ok (.aload_n 0, 1) := by decide +kernel
theorem dX3_speaks_59 : decode cX3_speaks 59 = .ok (.getfield 7, 3) := by decide +kernel
theorem dX3_speaks_62 : decode cX3_speaks 62 = .ok (.bipush 59, 2) := by decide +kernel
theorem dX3_speaks_64 : decode cX3_speaks 64 = .ok (.iload_n 2, 1) := by decide +kernel
theorem dX3_speaks_65 : decode cX3_speaks 65 = .ok (.iadd, 1) := by decide +kernel
theorem dX3_speaks_66 : decode cX3_speaks 66 = .ok (.iload_n 1, 1) := by decide +kernel
theorem dX3_speaks_67 : decode cX3_speaks 67 = .ok (.iastore, 1) := by decide +kernel
theorem dX3_speaks_68 : decode cX3_speaks 68 = .ok (.aload_n 0, 1) := by decide +kernel
theorem dX3_speaks_69 : decode cX3_speaks 69 = .ok (.getfield 7, 3) := by decide +kernel
theorem dX3_speaks_72 : decode cX3_speaks 72 = .ok (.bipush 91, 2) := by decide +kernel
theorem dX3_speaks_74 : decode cX3_speaks 74 = .ok (.iload_n 2, 1) := by decide +kernel
theorem dX3_speaks_75 : decode cX3_speaks 75 = .ok (.iadd, 1) := by decide +kernel
theorem dX3_speaks_76 : decode cX3_speaks 76 = .ok (.iload_n 1, 1) := by decide +kernel
theorem dX3_speaks_77 : decode cX3_speaks 77 = .ok (.iastore, 1) := by decide +kernel
theorem dX3_speaks_78 : decode cX3_speaks 78 = .ok (.aload_n 0, 1) := by decide +kernel
theorem dX3_speaks_79 : decode cX3_speaks 79 = .ok (.getfield 7, 3) := by decide +kernel
theorem dX3_speaks_82 : decode cX3_speaks 82 = .ok (.bipush 123, 2) := by decide +kernel
theorem dX3_speaks_84 : decode cX3_speaks 84 = .ok (.iload_n 2, 1) := by decide +kernel
theorem dX3_speaks_85 : decode cX3_speaks 85 = .ok (.iadd, 1) := by decide +kernel
theorem dX3_speaks_86 : decode cX3_speaks 86 = .ok (.aload_n 0, 1) := by decide +kernel
theorem dX3_speaks_87 : decode cX3_speaks 87 = .ok (.getfield 7, 3) := by decide +kernel
theorem dX3_speaks_90 : decode cX3_speaks 90 = .ok (.iconst 3, 1) := by decide +kernel
theorem dX3_speaks_91 : decode cX3_speaks 91 = .ok (.iaload, 1) := by decide +kernel
theorem dX3_speaks_92 : decode cX3_speaks 92 = .ok (.iastore, 1) := by decide +kernel
theorem dX3_speaks_93 : decode cX3_speaks 93 = .ok (.aload_n 0, 1) := by decide +kernel
theorem dX3_speaks_94 : decode cX3_speaks 94 = .ok (.getfield 7, 3) := by decide +kernel
theorem dX3_speaks_97 : decode cX3_speaks 97 = .ok (.iconst 3, 1) := by decide +kernel
theorem dX3_speaks_98 : decode cX3_speaks 98 = .ok (.dup2, 1) := by decide +kernel
theorem dX3_speaks_99 : decode cX3_speaks 99 = .ok (.iaload, 1) := by decide +kernel
theorem dX3_speaks_100 : decode cX3_speaks 100 = .ok (.iconst 1, 1) := by decide +kernel
theorem dX3_speaks_101 : decode cX3_speaks 101 = .ok (.iadd, 1) := by decide +kernel
theorem dX3_speaks_102 : decode cX3_speaks 102 = .ok (.iastore, 1) := by decide +kernel
theorem dX3_speaks_103 : decode cX3_speaks 103 = .ok (.aload_n 0, 1) := by decide +kernel
theorem dX3_speaks_104 : decode cX3_speaks 104 = .ok (.getfield 7, 3) := by decide +kernel
theorem dX3_speaks_107 : decode cX3_speaks 107 = .ok (.iconst 2, 1) := by decide +kernel
theorem dX3_speaks_108 : decode cX3_speaks 108 = .ok (.iload_n 2, 1) := by decide +kernel
theorem dX3_speaks_109 : decode cX3_speaks 109 = .ok (.iconst 1, 1) := by decide +kernel
theorem dX3_speaks_110 : decode cX3_speaks 110 = .ok (.iadd, 1) := by decide +kernel
theorem dX3_speaks_111 : decode cX3_speaks 111 = .ok (.bipush 32, 2) := by decide +kernel
theorem dX3_speaks_113 : decode cX3_speaks 113 = .ok (.irem, 1) := by decide +kernel
theorem dX3_speaks_114 : decode cX3_speaks 114 = .ok (.iastore, 1) := by decide +kernel
theorem dX3_speaks_115 : decode cX3_speaks 115 = .ok (.iload_n 2, 1) := by decide +kernel
theorem dX3_speaks_116 : decode cX3_speaks 116 = .ok (.ireturn, 1) := by decide +kernel
theorem dX3_halts_0 : decode cX3_halts 0 = .ok (.aload_n 0, 1) := by decide +kernel
theorem dX3_halts_1 : decode cX3_halts 1 = .ok (.getfield 7, 3) := by decide +kernel
theorem dX3_halts_4 : decode cX3_halts 4 = .ok (.iconst 1, 1) := by decide +kernel
theorem dX3_halts_5 : decode cX3_halts 5 = .ok (.iaload, 1) := by decide +kernel
theorem dX3_halts_6 : decode cX3_halts 6 = .ok (.istore_n 1, 1) := by decide +kernel
theorem dX3_halts_7 : decode cX3_halts 7 = .ok (.aload_n 0, 1) := by decide +kernel
theorem dX3_halts_8 : decode cX3_halts 8 = .ok (.iload_n 1, 1) := by decide +kernel
theorem dX3_halts_9 : decode cX3_halts 9 = .ok (.invokevirtual 32, 3) := by decide +kernel
theorem dX3_halts_12 : decode cX3_halts 12 = .ok (.istore_n 2, 1) := by decide +kernel
theorem dX3_halts_13 : decode cX3_halts 13 = .ok (.iload_n 2, 1) := by decide +kernel
theorem dX3_halts_14 : decode cX3_halts 14 = .ok (.ifCond .ne 8, 3) := by decide +kernel
theorem dX3_halts_17 : decode cX3_halts 17 = .ok (.aload_n 0, 1) := by decide +kernel
theorem dX3_halts_18 : decode cX3_halts 18 = .ok (.iload_n 1, 1) := by decide +kernel
theorem dX3_halts_19 : decode cX3_halts 19 = .ok (.invokevirtual 35, 3) := by decide +kernel
theorem dX3_halts_22 : decode cX3_halts 22 = .ok (.aload_n 0, 1) := by decide +kernel
theorem dX3_halts_23 : decode cX3_halts 23 = .ok (.getfield 7, 3) := by decide +kernel
theorem dX3_halts_26 : decode cX3_halts 26 = .ok (.iconst 1, 1) := by decide +kernel
theorem dX3_halts_27 : decode cX3_halts 27 = .ok (.iconst (-1), 1) := by decide +kernel
theorem dX3_halts_28 : decode cX3_halts 28 = .ok (.iastore, 1) := by decide +kernel
theorem dX3_halts_29 : decode cX3_halts 29 = .ok (.iload_n 2, 1) := by decide +kernel
theorem dX3_halts_30 : decode cX3_halts 30 = .ok (.ireturn, 1) := by decide +kernel
theorem dX3_begins_0 : decode cX3_begins 0 = .ok (.aload_n 0, 1) := by decide +kernel
theorem dX3_begins_1 : decode cX3_begins 1 = .ok (.getfield 7, 3) := by decide +kernel
theorem dX3_begins_4 : decode cX3_begins 4 = .ok (.iconst 1, 1) := by decide +kernel
theorem dX3_begins_5 : decode cX3_begins 5 = .ok (.iaload, 1) := by decide +kernel
theorem dX3_begins_6 : decode cX3_begins 6 = .ok (.iconst (-1), 1) := by decide +kernel
theorem dX3_begins_7 : decode cX3_begins 7 = .ok (.if_icmp .eq 8, 3) := by decide +kernel
theorem dX3_begins_10 : decode cX3_begins 10 = .ok (.aload_n 0, 1) := by decide +kernel
theorem dX3_begins_11 : decode cX3_begins 11 = .ok (.invokevirtual 42, 3) := by decide +kernel
theorem dX3_begins_14 : decode cX3_begins 14 = .ok (.pop, 1) := by decide +kernel
theorem dX3_begins_15 : decode cX3_begins 15 = .ok (.aload_n 0, 1) := by decide +kernel
theorem dX3_begins_16 : decode cX3_begins 16 = .ok (.getfield 7, 3) := by decide +kernel
theorem dX3_begins_19 : decode cX3_begins 19 = .ok (.bipush 7, 2) := by decide +kernel
theorem dX3_begins_21 : decode cX3_begins 21 = .ok (.aload_n 0, 1) := by decide +kernel
theorem dX3_begins_22 : decode cX3_begins 22 = .ok (.getfield 7, 3) := by decide +kernel
theorem dX3_begins_25 : decode cX3_begins 25 = .ok (.iconst 0, 1) := by decide +kernel
theorem dX3_begins_26 : decode cX3_begins 26 = .ok (.iaload, 1) := by decide +kernel
theorem dX3_begins_27 : decode cX3_begins 27 = .ok (.iadd, 1) := by decide +kernel
theorem dX3_begins_28 : decode cX3_begins 28 = .ok (.iconst 0, 1) := by decide +kernel
theorem dX3_begins_29 : decode cX3_begins 29 = .ok (.iastore, 1) := by decide +kernel
theorem dX3_begins_30 : decode cX3_begins 30 = .ok (.aload_n 0, 1) := by decide +kernel
theorem dX3_begins_31 : decode cX3_begins 31 = .ok (.getfield 7, 3) := by decide +kernel
theorem dX3_begins_34 : decode cX3_begins 34 = .ok (.bipush 17, 2) := by decide +kernel
theorem dX3_begins_36 : decode cX3_begins 36 = .ok (.aload_n 0, 1) := by decide +kernel
theorem dX3_begins_37 : decode cX3_begins 37 = .ok (.getfield 7, 3) := by decide +kernel
theorem dX3_begins_40 : decode cX3_begins 40 = .ok (.iconst 0, 1) := by decide +kernel
theorem dX3_begins_41 : decode cX3_begins 41 = .ok (.iaload, 1) := by decide +kernel
theorem dX3_begins_42 : decode cX3_begins 42 = .ok (.iadd, 1) := by decide +kernel
theorem dX3_begins_43 : decode cX3_begins 43 = .ok (.iconst 0, 1) := by decide +kernel
theorem dX3_begins_44 : decode cX3_begins 44 = .ok (.iastore, 1) := by decide +kernel
theorem dX3_begins_45 : decode cX3_begins 45 = .ok (.aload_n 0, 1) := by decide +kernel
theorem dX3_begins_46 : decode cX3_begins 46 = .ok (.getfield 7, 3) := by decide +kernel
theorem dX3_begins_49 : decode cX3_begins 49 = .ok (.iconst 1, 1) := by decide +kernel
theorem dX3_begins_50 : decode cX3_begins 50 = .ok (.aload_n 0, 1) := by decide +kernel
theorem dX3_begins_51 : decode cX3_begins 51 = .ok (.getfield 7, 3) := by decide +kernel
theorem dX3_begins_54 : decode cX3_begins 54 = .ok (.iconst 0, 1) := by decide +kernel
theorem dX3_begins_55 : decode cX3_begins 55 = .ok (.iaload, 1) := by decide +kernel
theorem dX3_begins_56 : decode cX3_begins 56 = .ok (.iastore, 1) := by decide +kernel
theorem dX3_begins_57 : decode cX3_begins 57 = .ok (.aload_n 0, 1) := by decide +kernel
theorem dX3_begins_58 : decode cX3_begins 58 = .ok (.getfield 7, 3) := by decide +kernel
theorem dX3_begins_61 : decode cX3_begins 61 = .ok (.iconst 0, 1) := by decide +kernel
theorem dX3_begins_62 : decode cX3_begins 62 = .ok (.dup2, 1) := by decide +kernel
theorem dX3_begins_63 : decode cX3_begins 63 = .ok (.iaload, 1) := by decide +kernel
theorem dX3_begins_64 : decode cX3_begins 64 = .ok (.iconst 1, 1) := by decide +kernel
theorem dX3_begins_65 : decode cX3_begins 65 = .ok (.iadd, 1) := by decide +kernel
theorem dX3_begins_66 : decode cX3_begins 66 = .ok (.iastore, 1) := by decide +kernel
theorem dX3_begins_67 : decode cX3_begins 67 = .ok (.aload_n 0, 1) := by decide +kernel
theorem dX3_begins_68 : decode cX3_begins 68 = .ok (.getfield 7, 3) := by decide +kernel
theorem dX3_begins_71 : decode cX3_begins 71 = .ok (.iconst 1, 1) := by decide +kernel
theorem dX3_begins_72 : decode cX3_begins 72 = .ok (.iaload, 1) := by decide +kernel
theorem dX3_begins_73 : decode cX3_begins 73 = .ok (.ireturn, 1) := by decide +kernel
theorem dX3_canBegin_0 : decode cX3_canBegin 0 = .ok (.aload_n 0, 1) := by decide +kernel
theorem dX3_canBegin_1 : decode cX3_canBegin 1 = .ok (.getfield 7, 3) := by decide +kernel
theorem dX3_canBegin_4 : decode cX3_canBegin 4 = .ok (.iconst 0, 1) := by decide +kernel
theorem dX3_canBegin_5 : decode cX3_canBegin 5 = .ok (.iaload, 1) := by decide +kernel
theorem dX3_canBegin_6 : decode cX3_canBegin 6 = .ok (.bipush 10, 2) := by decide +kernel
theorem dX3_canBegin_8 : decode cX3_canBegin 8 = .ok (.if_icmp .lt 26, 3) := by decide +kernel
theorem dX3_canBegin_11 : decode cX3_canBegin 11 = .ok (.aload_n 0, 1) := by decide +kernel
theorem dX3_canBegin_12 : decode cX3_canBegin 12 = .ok (.getfield 7, 3) := by decide +kernel
theorem dX3_canBegin_15 : decode cX3_canBegin 15 = .ok (.iconst 1, 1) := by decide +kernel
theorem dX3_canBegin_16 : decode cX3_canBegin 16 = .ok (.iaload, 1) := by decide +kernel
theorem dX3_canBegin_17 : decode cX3_canBegin 17 = .ok (.iconst (-1), 1) := by decide +kernel
theorem dX3_canBegin_18 : decode cX3_canBegin 18 = .ok (.if_icmp .eq 20, 3) := by decide +kernel
theorem dX3_canBegin_21 : decode cX3_canBegin 21 = .ok (.aload_n 0, 1) := by decide +kernel
theorem dX3_canBegin_22 : decode cX3_canBegin 22 = .ok (.aload_n 0, 1) := by decide +kernel
theorem dX3_canBegin_23 : decode cX3_canBegin 23 = .ok (.getfield 7, 3) := by decide +kernel
theorem dX3_canBegin_26 : decode cX3_canBegin 26 = .ok (.iconst 1, 1) := by decide +kernel
theorem dX3_canBegin_27 : decode cX3_canBegin 27 = .ok (.iaload, 1) := by decide +kernel
theorem dX3_canBegin_28 : decode cX3_canBegin 28 = .ok (.invokevirtual 32, 3) := by decide +kernel
theorem dX3_canBegin_31 : decode cX3_canBegin 31 = .ok (.ifCond .ne 7, 3) := by decide +kernel
theorem dX3_canBegin_34 : decode cX3_canBegin 34 = .ok (.iconst 1, 1) := by decide +kernel
theorem dX3_canBegin_35 : decode cX3_canBegin 35 = .ok (.goto 4, 3) := by decide +kernel
theorem dX3_canBegin_38 : decode cX3_canBegin 38 = .ok (.iconst 0, 1) := by decide +kernel
theorem dX3_canBegin_39 : decode cX3_canBegin 39 = .ok (.ireturn, 1) := by decide +kernel
theorem dX3_canSpeak_0 : decode cX3_canSpeak 0 = .ok (.aload_n 0, 1) := by decide +kernel
theorem dX3_canSpeak_1 : decode cX3_canSpeak 1 = .ok (.getfield 7, 3) := by decide +kernel
theorem dX3_canSpeak_4 : decode cX3_canSpeak 4 = .ok (.iconst 1, 1) := by decide +kernel
theorem dX3_canSpeak_5 : decode cX3_canSpeak 5 = .ok (.iaload, 1) := by decide +kernel
theorem dX3_canSpeak_6 : decode cX3_canSpeak 6 = .ok (.iconst (-1), 1) := by decide +kernel
theorem dX3_canSpeak_7 : decode cX3_canSpeak 7 = .ok (.if_icmp .eq 15, 3) := by decide +kernel
theorem dX3_canSpeak_10 : decode cX3_canSpeak 10 = .ok (.aload_n 0, 1) := by decide +kernel
theorem dX3_canSpeak_11 : decode cX3_canSpeak 11 = .ok (.invokevirtual 46, 3) := by decide +kernel
theorem dX3_canSpeak_14 : decode cX3_canSpeak 14 = .ok (.iload_n 1, 1) := by decide +kernel
theorem dX3_canSpeak_15 : decode cX3_canSpeak 15 = .ok (.if_icmp .lt 7, 3) := by decide +kernel
theorem dX3_canSpeak_18 : decode cX3_canSpeak 18 = .ok (.iconst 1, 1) := by decide +kernel
theorem dX3_canSpeak_19 : decode cX3_canSpeak 19 = .ok (.goto 4, 3) := by decide +kernel
theorem dX3_canSpeak_22 : decode cX3_canSpeak 22 = .ok (.iconst 0, 1) := by decide +kernel
theorem dX3_canSpeak_23 : decode cX3_canSpeak 23 = .ok (.ireturn, 1) := by decide +kernel
theorem dX3_goes_0 : decode cX3_goes 0 = .ok (.aload_n 0, 1) := by decide +kernel
theorem dX3_goes_1 : decode cX3_goes 1 = .ok (.getfield 7, 3) := by decide +kernel
theorem dX3_goes_4 : decode cX3_goes 4 = .ok (.iconst 5, 1) := by decide +kernel
theorem dX3_goes_5 : decode cX3_goes 5 = .ok (.iload_n 1, 1) := by decide +kernel
theorem dX3_goes_6 : decode cX3_goes 6 = .ok (.iastore, 1) := by decide +kernel
theorem dX3_goes_7 : decode cX3_goes 7 = .ok (.aload_n 0, 1) := by decide +kernel
theorem dX3_goes_8 : decode cX3_goes 8 = .ok (.getfield 7, 3) := by decide +kernel
theorem dX3_goes_11 : decode cX3_goes 11 = .ok (.bipush 6, 2) := by decide +kernel
theorem dX3_goes_13 : decode cX3_goes 13 = .ok (.iconst 0, 1) := by decide +kernel
theorem dX3_goes_14 : decode cX3_goes 14 = .ok (.iastore, 1) := by decide +kernel
theorem dX3_goes_15 : decode cX3_goes 15 = .ok (.aload_n 0, 1) := by decide +kernel
theorem dX3_goes_16 : decode cX3_goes 16 = .ok (.iload_n 1, 1) := by decide +kernel
theorem dX3_goes_17 : decode cX3_goes 17 = .ok (.invokevirtual 32, 3) := by decide +kernel
theorem dX3_goes_20 : decode cX3_goes 20 = .ok (.ireturn, 1) := by decide +kernel
theorem dX3_plays_0 : decode cX3_plays 0 = .ok (.aload_n 0, 1) := by decide +kernel
theorem dX3_plays_1 : decode cX3_plays 1 = .ok (.aload_n 0, 1) := by decide +kernel
theorem dX3_plays_2 : decode cX3_plays 2 = .ok (.getfield 7, 3) := by decide +kernel
theorem dX3_plays_5 : decode cX3_plays 5 = .ok (.iconst 5, 1) := by decide +kernel
theorem dX3_plays_6 : decode cX3_plays 6 = .ok (.iaload, 1) := by decide +kernel
theorem dX3_plays_7 : decode cX3_plays 7 = .ok (.aload_n 0, 1) := by decide +kernel
theorem dX3_plays_8 : decode cX3_plays 8 = .ok (.getfield 7, 3) := by decide +kernel
theorem dX3_plays_11 : decode cX3_plays 11 = .ok (.bipush 6, 2) := by decide +kernel
theorem dX3_plays_13 : decode cX3_plays 13 = .ok (.iaload, 1) := by decide +kernel
theorem dX3_plays_14 : decode cX3_plays 14 = .ok (.invokevirtual 49, 3) := by decide +kernel
theorem dX3_plays_17 : decode cX3_plays 17 = .ok (.istore_n 1, 1) := by decide +kernel
theorem dX3_plays_18 : decode cX3_plays 18 = .ok (.aload_n 0, 1) := by decide +kernel
theorem dX3_plays_19 : decode cX3_plays 19 = .ok (.getfield 7, 3) := by decide +kernel
theorem dX3_plays_22 : decode cX3_plays 22 = .ok (.bipush 6, 2) := by decide +kernel
theorem dX3_plays_24 : decode cX3_plays 24 = .ok (.dup2, 1) := by decide +kernel
theorem dX3_plays_25 : decode cX3_plays 25 = .ok (.iaload, 1) := by decide +kernel
theorem dX3_plays_26 : decode cX3_plays 26 = .ok (.iload_n 1, 1) := by decide +kernel
theorem dX3_plays_27 : decode cX3_plays 27 = .ok (.iconst (-1), 1) := by decide +kernel
theorem dX3_plays_28 : decode cX3_plays 28 = .ok (.if_icmp .ne 7, 3) := by decide +kernel
theorem dX3_plays_31 : decode cX3_plays 31 = .ok (.iconst 0, 1) := by decide +kernel
theorem dX3_plays_32 : decode cX3_plays 32 = .ok (.goto 4, 3) := by decide +kernel
theorem dX3_plays_35 : decode cX3_plays 35 = .ok (.iconst 1, 1) := by decide +kernel
theorem dX3_plays_36 : decode cX3_plays 36 = .ok (.iadd, 1) := by decide +kernel
theorem dX3_plays_37 : decode cX3_plays 37 = .ok (.iastore, 1) := by decide +kernel
theorem dX3_plays_38 : decode cX3_plays 38 = .ok (.iload_n 1, 1) := by decide +kernel
theorem dX3_plays_39 : decode cX3_plays 39 = .ok (.iconst (-1), 1) := by decide +kernel
theorem dX3_plays_40 : decode cX3_plays 40 = .ok (.if_icmp .ne 7, 3) := by decide +kernel
theorem dX3_plays_43 : decode cX3_plays 43 = .ok (.iconst (-1), 1) := by decide +kernel
theorem dX3_plays_44 : decode cX3_plays 44 = .ok (.goto 12, 3) := by decide +kernel
theorem dX3_plays_47 : decode cX3_plays 47 = .ok (.aload_n 0, 1) := by decide +kernel
theorem dX3_plays_48 : decode cX3_plays 48 = .ok (.getfield 7, 3) := by decide +kernel
theorem dX3_plays_51 : decode cX3_plays 51 = .ok (.bipush 59, 2) := by decide +kernel
theorem dX3_plays_53 : decode cX3_plays 53 = .ok (.iload_n 1, 1) := by decide +kernel
theorem dX3_plays_54 : decode cX3_plays 54 = .ok (.iadd, 1) := by decide +kernel
theorem dX3_plays_55 : decode cX3_plays 55 = .ok (.iaload, 1) := by decide +kernel
theorem dX3_plays_56 : decode cX3_plays 56 = .ok (.ireturn, 1) := by decide +kernel
theorem dX3_goesBack_0 : decode cX3_goesBack 0 = .ok (.aload_n 0, 1) := by decide +kernel
theorem dX3_goesBack_1 : decode cX3_goesBack 1 = .ok (.getfield 7, 3) := by decide +kernel
theorem dX3_goesBack_4 : decode cX3_goesBack 4 = .ok (.bipush 6, 2) := by decide +kernel
theorem dX3_goesBack_6 : decode cX3_goesBack 6 = .ok (.aload_n 0, 1) := by decide +kernel
theorem dX3_goesBack_7 : decode cX3_goesBack 7 = .ok (.getfield 7, 3) := by decide +kernel
theorem dX3_goesBack_10 : decode cX3_goesBack 10 = .ok (.bipush 6, 2) := by decide +kernel
theorem dX3_goesBack_12 : decode cX3_goesBack 12 = .ok (.iaload, 1) := by decide +kernel
theorem dX3_goesBack_13 : decode cX3_goesBack 13 = .ok (.iload_n 1, 1) := by decide +kernel
theorem dX3_goesBack_14 : decode cX3_goesBack 14 = .ok (.if_icmp .ge 7, 3) := by decide +kernel
theorem dX3_goesBack_17 : decode cX3_goesBack 17 = .ok (.iconst 0, 1) := by decide +kernel
theorem dX3_goesBack_18 : decode cX3_goesBack 18 = .ok (.goto 12, 3) := by decide +kernel
theorem dX3_goesBack_21 : decode cX3_goesBack 21 = .ok (.aload_n 0, 1) := by decide +kernel
theorem dX3_goesBack_22 : decode cX3_goesBack 22 = .ok (.getfield 7, 3) := by decide +kernel
theorem dX3_goesBack_25 : decode cX3_goesBack 25 = .ok (.bipush 6, 2) := by decide +kernel
theorem dX3_goesBack_27 : decode cX3_goesBack 27 = .ok (.iaload, 1) := by decide +kernel
theorem dX3_goesBack_28 : decode cX3_goesBack 28 = .ok (.iload_n 1, 1) := by decide +kernel
theorem dX3_goesBack_29 : decode cX3_goesBack 29 = .ok (.isub, 1) := by decide +kernel
theorem dX3_goesBack_30 : decode cX3_goesBack 30 = .ok (.iastore, 1) := by decide +kernel
theorem dX3_goesBack_31 : decode cX3_goesBack 31 = .ok (.aload_n 0, 1) := by decide +kernel
theorem dX3_goesBack_32 : decode cX3_goesBack 32 = .ok (.getfield 7, 3) := by decide +kernel
theorem dX3_goesBack_35 : decode cX3_goesBack 35 = .ok (.bipush 6, 2) := by decide +kernel
theorem dX3_goesBack_37 : decode cX3_goesBack 37 = .ok (.iaload, 1) := by decide +kernel
theorem dX3_goesBack_38 : decode cX3_goesBack 38 = .ok (.ireturn, 1) := by decide +kernel
theorem dX3_copies_0 : decode cX3_copies 0 = .ok (.iconst 0, 1) := by decide +kernel
theorem dX3_copies_1 : decode cX3_copies 1 = .ok (.istore_n 3, 1) := by decide +kernel
theorem dX3_copies_2 : decode cX3_copies 2 = .ok (.iload_n 3, 1) := by decide +kernel
theorem dX3_copies_3 : decode cX3_copies 3 = .ok (.sipush 155, 3) := by decide +kernel
theorem dX3_copies_6 : decode cX3_copies 6 = .ok (.if_icmp .ge 33, 3) := by decide +kernel
theorem dX3_copies_9 : decode cX3_copies 9 = .ok (.aload_n 0, 1) := by decide +kernel
theorem dX3_copies_10 : decode cX3_copies 10 = .ok (.getfield 7, 3) := by decide +kernel
theorem dX3_copies_13 : decode cX3_copies 13 = .ok (.sipush 155, 3) := by decide +kernel
theorem dX3_copies_16 : decode cX3_copies 16 = .ok (.iload_n 2, 1) := by decide +kernel
theorem dX3_copies_17 : decode cX3_copies 17 = .ok (.imul, 1) := by decide +kernel
theorem dX3_copies_18 : decode cX3_copies 18 = .ok (.iload_n 3, 1) := by decide +kernel
theorem dX3_copies_19 : decode cX3_copies 19 = .ok (.iadd, 1) := by decide +kernel
theorem dX3_copies_20 : decode cX3_copies 20 = .ok (.aload_n 0, 1) := by decide +kernel
theorem dX3_copies_21 : decode cX3_copies 21 = .ok (.getfield 7, 3) := by decide +kernel
theorem dX3_copies_24 : decode cX3_copies 24 = .ok (.sipush 155, 3) := by decide +kernel
theorem dX3_copies_27 : decode cX3_copies 27 = .ok (.iload_n 1, 1) := by decide +kernel
theorem dX3_copies_28 : decode cX3_copies 28 = .ok (.imul, 1) := by decide +kernel
theorem dX3_copies_29 : decode cX3_copies 29 = .ok (.iload_n 3, 1) := by decide +kernel
theorem dX3_copies_30 : decode cX3_copies 30 = .ok (.iadd, 1) := by decide +kernel
theorem dX3_copies_31 : decode cX3_copies 31 = .ok (.iaload, 1) := by decide +kernel
theorem dX3_copies_32 : decode cX3_copies 32 = .ok (.iastore, 1) := by decide +kernel
theorem dX3_copies_33 : decode cX3_copies 33 = .ok (.iinc 3 1, 3) := by decide +kernel
theorem dX3_copies_36 : decode cX3_copies 36 = .ok (.goto (-34), 3) := by decide +kernel
theorem dX3_copies_39 : decode cX3_copies 39 = .ok (.return_, 1) := by decide +kernel
theorem dX3_save_0 : decode cX3_save 0 = .ok (.iconst 1, 1) := by decide +kernel
theorem dX3_save_1 : decode cX3_save 1 = .ok (.istore_n 1, 1) := by decide +kernel
theorem dX3_save_2 : decode cX3_save 2 = .ok (.iload_n 1, 1) := by decide +kernel
theorem dX3_save_3 : decode cX3_save 3 = .ok (.bipush 6, 2) := by decide +kernel
theorem dX3_save_5 : decode cX3_save 5 = .ok (.if_icmp .ge 26, 3) := by decide +kernel
theorem dX3_save_8 : decode cX3_save 8 = .ok (.aload_n 0, 1) := by decide +kernel
theorem dX3_save_9 : decode cX3_save 9 = .ok (.getfield 53, 3) := by decide +kernel
theorem dX3_save_12 : decode cX3_save 12 = .ok (.bipush 6, 2) := by decide +kernel
theorem dX3_save_14 : decode cX3_save 14 = .ok (.if_icmp .ne 17, 3) := by decide +kernel
theorem dX3_save_17 : decode cX3_save 17 = .ok (.aload_n 0, 1) := by decide +kernel
theorem dX3_save_18 : decode cX3_save 18 = .ok (.iload_n 1, 1) := by decide +kernel
theorem dX3_save_19 : decode cX3_save 19 = .ok (.iconst 1, 1) := by decide +kernel
theorem dX3_save_20 : decode cX3_save 20 = .ok (.iadd, 1) := by decide +kernel
theorem dX3_save_21 : decode cX3_save 21 = .ok (.iload_n 1, 1) := by decide +kernel
theorem dX3_save_22 : decode cX3_save 22 = .ok (.invokevirtual 56, 3) := by decide +kernel
theorem dX3_save_25 : decode cX3_save 25 = .ok (.iinc 1 1, 3) := by decide +kernel
theorem dX3_save_28 : decode cX3_save 28 = .ok (.goto (-26), 3) := by decide +kernel
theorem dX3_save_31 : decode cX3_save 31 = .ok (.aload_n 0, 1) := by decide +kernel
theorem dX3_save_32 : decode cX3_save 32 = .ok (.dup, 1) := by decide +kernel
theorem dX3_save_33 : decode cX3_save 33 = .ok (.getfield 53, 3) := by decide +kernel
theorem dX3_save_36 : decode cX3_save 36 = .ok (.aload_n 0, 1) := by decide +kernel
theorem dX3_save_37 : decode cX3_save 37 = .ok (.getfield 53, 3) := by decide +kernel
theorem dX3_save_40 : decode cX3_save 40 = .ok (.bipush 6, 2) := by decide +kernel
theorem dX3_save_42 : decode cX3_save 42 = .ok (.if_icmp .ge 7, 3) := by decide +kernel
theorem dX3_save_45 : decode cX3_save 45 = .ok (.iconst 1, 1) := by decide +kernel
theorem dX3_save_46 : decode cX3_save 46 = .ok (.goto 4, 3) := by decide +kernel
theorem dX3_save_49 : decode cX3_save 49 = .ok (.iconst 0, 1) := by decide +kernel
theorem dX3_save_50 : decode cX3_save 50 = .ok (.iadd, 1) := by decide +kernel
theorem dX3_save_51 : decode cX3_save 51 = .ok (.putfield 53, 3) := by decide +kernel
theorem dX3_save_54 : decode cX3_save 54 = .ok (.aload_n 0, 1) := by decide +kernel
theorem dX3_save_55 : decode cX3_save 55 = .ok (.iconst 0, 1) := by decide +kernel
theorem dX3_save_56 : decode cX3_save 56 = .ok (.aload_n 0, 1) := by decide +kernel
theorem dX3_save_57 : decode cX3_save 57 = .ok (.getfield 53, 3) := by decide +kernel
theorem dX3_save_60 : decode cX3_save 60 = .ok (.invokevirtual 56, 3) := by decide +kernel
theorem dX3_save_63 : decode cX3_save 63 = .ok (.return_, 1) := by decide +kernel
theorem dX3_begin_0 : decode cX3_begin 0 = .ok (.aload_n 0, 1) := by decide +kernel
theorem dX3_begin_1 : decode cX3_begin 1 = .ok (.aload_n 0, 1) := by decide +kernel
theorem dX3_begin_2 : decode cX3_begin 2 = .ok (.invokevirtual 60, 3) := by decide +kernel
theorem dX3_begin_5 : decode cX3_begin 5 = .ok (.ifCond .eq 7, 3) := by decide +kernel
theorem dX3_begin_8 : decode cX3_begin 8 = .ok (.iconst 0, 1) := by decide +kernel
theorem dX3_begin_9 : decode cX3_begin 9 = .ok (.goto 4, 3) := by decide +kernel
theorem dX3_begin_12 : decode cX3_begin 12 = .ok (.iconst 1, 1) := by decide +kernel
theorem dX3_begin_13 : decode cX3_begin 13 = .ok (.invokevirtual 64, 3) := by decide +kernel
theorem dX3_begin_16 : decode cX3_begin 16 = .ok (.ifCond .ne 5, 3) := by decide +kernel
theorem dX3_begin_19 : decode cX3_begin 19 = .ok (.iconst 0, 1) := by decide +kernel
theorem dX3_begin_20 : decode cX3_begin 20 = .ok (.ireturn, 1) := by decide +kernel
theorem dX3_begin_21 : decode cX3_begin 21 = .ok (.aload_n 0, 1) := by decide +kernel
theorem dX3_begin_22 : decode cX3_begin 22 = .ok (.invokevirtual 67, 3) := by decide +kernel
theorem dX3_begin_25 : decode cX3_begin 25 = .ok (.aload_n 0, 1) := by decide +kernel
theorem dX3_begin_26 : decode cX3_begin 26 = .ok (.invokevirtual 70, 3) := by decide +kernel
theorem dX3_begin_29 : decode cX3_begin 29 = .ok (.ireturn, 1) := by decide +kernel
theorem dX3_halt_0 : decode cX3_halt 0 = .ok (.aload_n 0, 1) := by decide +kernel
theorem dX3_halt_1 : decode cX3_halt 1 = .ok (.aload_n 0, 1) := by decide +kernel
theorem dX3_halt_2 : decode cX3_halt 2 = .ok (.getfield 7, 3) := by decide +kernel
theorem dX3_halt_5 : decode cX3_halt 5 = .ok (.iconst 1, 1) := by decide +kernel
theorem dX3_halt_6 : decode cX3_halt 6 = .ok (.iaload, 1) := by decide +kernel
theorem dX3_halt_7 : decode cX3_halt 7 = .ok (.iconst (-1), 1) := by decide +kernel
theorem dX3_halt_8 : decode cX3_halt 8 = .ok (.if_icmp .ne 7, 3) := by decide +kernel
theorem dX3_halt_11 : decode cX3_halt 11 = .ok (.iconst 1, 1) := by decide +kernel
theorem dX3_halt_12 : decode cX3_halt 12 = .ok (.goto 4, 3) := by decide +kernel
theorem dX3_halt_15 : decode cX3_halt 15 = .ok (.iconst 0, 1) := by decide +kernel
theorem dX3_halt_16 : decode cX3_halt 16 = .ok (.invokevirtual 64, 3) := by decide +kernel
theorem dX3_halt_19 : decode cX3_halt 19 = .ok (.ifCond .ne 5, 3) := by decide +kernel
theorem dX3_halt_22 : decode cX3_halt 22 = .ok (.iconst 0, 1) := by decide +kernel
theorem dX3_halt_23 : decode cX3_halt 23 = .ok (.ireturn, 1) := by decide +kernel
theorem dX3_halt_24 : decode cX3_halt 24 = .ok (.aload_n 0, 1) := by decide +kernel
theorem dX3_halt_25 : decode cX3_halt 25 = .ok (.invokevirtual 67, 3) := by decide +kernel
theorem dX3_halt_28 : decode cX3_halt 28 = .ok (.aload_n 0, 1) := by decide +kernel
theorem dX3_halt_29 : decode cX3_halt 29 = .ok (.invokevirtual 42, 3) := by decide +kernel
theorem dX3_halt_32 : decode cX3_halt 32 = .ok (.ireturn, 1) := by decide +kernel
theorem dX3_isSound_0 : decode cX3_isSound 0 = .ok (.iload_n 0, 1) := by decide +kernel
theorem dX3_isSound_1 : decode cX3_isSound 1 = .ok (.iconst 0, 1) := by decide +kernel
theorem dX3_isSound_2 : decode cX3_isSound 2 = .ok (.bipush 99, 2) := by decide +kernel
theorem dX3_isSound_4 : decode cX3_isSound 4 = .ok (.invokestatic 20, 3) := by decide +kernel
theorem dX3_isSound_7 : decode cX3_isSound 7 = .ok (.ireturn, 1) := by decide +kernel
theorem dX3_speak_0 : decode cX3_speak 0 = .ok (.aload_n 0, 1) := by decide +kernel
theorem dX3_speak_1 : decode cX3_speak 1 = .ok (.iload_n 1, 1) := by decide +kernel
theorem dX3_speak_2 : decode cX3_speak 2 = .ok (.invokestatic 73, 3) := by decide +kernel
theorem dX3_speak_5 : decode cX3_speak 5 = .ok (.ifCond .ne 7, 3) := by decide +kernel
theorem dX3_speak_8 : decode cX3_speak 8 = .ok (.iconst 1, 1) := by decide +kernel
theorem dX3_speak_9 : decode cX3_speak 9 = .ok (.goto 16, 3) := by decide +kernel
theorem dX3_speak_12 : decode cX3_speak 12 = .ok (.aload_n 0, 1) := by decide +kernel
theorem dX3_speak_13 : decode cX3_speak 13 = .ok (.iconst 1, 1) := by decide +kernel
theorem dX3_speak_14 : decode cX3_speak 14 = .ok (.invokevirtual 76, 3) := by decide +kernel
theorem dX3_speak_17 : decode cX3_speak 17 = .ok (.ifCond .ne 7, 3) := by decide +kernel
theorem dX3_speak_20 : decode cX3_speak 20 = .ok (.iconst 2, 1) := by decide +kernel
theorem dX3_speak_21 : decode cX3_speak 21 = .ok (.goto 4, 3) := by decide +kernel
theorem dX3_speak_24 : decode cX3_speak 24 = .ok (.iconst 0, 1) := by decide +kernel
theorem dX3_speak_25 : decode cX3_speak 25 = .ok (.invokevirtual 64, 3) := by decide +kernel
theorem dX3_speak_28 : decode cX3_speak 28 = .ok (.ifCond .ne 5, 3) := by decide +kernel
theorem dX3_speak_31 : decode cX3_speak 31 = .ok (.iconst 0, 1) := by decide +kernel
theorem dX3_speak_32 : decode cX3_speak 32 = .ok (.ireturn, 1) := by decide +kernel
theorem dX3_speak_33 : decode cX3_speak 33 = .ok (.aload_n 0, 1) := by decide +kernel
theorem dX3_speak_34 : decode cX3_speak 34 = .ok (.invokevirtual 67, 3) := by decide +kernel
theorem dX3_speak_37 : decode cX3_speak 37 = .ok (.aload_n 0, 1) := by decide +kernel
theorem dX3_speak_38 : decode cX3_speak 38 = .ok (.iload_n 1, 1) := by decide +kernel
theorem dX3_speak_39 : decode cX3_speak 39 = .ok (.invokevirtual 79, 3) := by decide +kernel
theorem dX3_speak_42 : decode cX3_speak 42 = .ok (.ireturn, 1) := by decide +kernel
theorem dX3_setFlag_0 : decode cX3_setFlag 0 = .ok (.aload_n 0, 1) := by decide +kernel
theorem dX3_setFlag_1 : decode cX3_setFlag 1 = .ok (.aload_n 0, 1) := by decide +kernel
theorem dX3_setFlag_2 : decode cX3_setFlag 2 = .ok (.iload_n 1, 1) := by decide +kernel
theorem dX3_setFlag_3 : decode cX3_setFlag 3 = .ok (.invokevirtual 82, 3) := by decide +kernel
theorem dX3_setFlag_6 : decode cX3_setFlag 6 = .ok (.ifCond .eq 7, 3) := by decide +kernel
theorem dX3_setFlag_9 : decode cX3_setFlag 9 = .ok (.iconst 0, 1) := by decide +kernel
theorem dX3_setFlag_10 : decode cX3_setFlag 10 = .ok (.goto 4, 3) := by decide +kernel
theorem dX3_setFlag_13 : decode cX3_setFlag 13 = .ok (.iconst 1, 1) := by decide +kernel
theorem dX3_setFlag_14 : decode cX3_setFlag 14 = .ok (.invokevirtual 64, 3) := by decide +kernel
theorem dX3_setFlag_17 : decode cX3_setFlag 17 = .ok (.ifCond .ne 5, 3) := by decide +kernel
theorem dX3_setFlag_20 : decode cX3_setFlag 20 = .ok (.iconst 0, 1) := by decide +kernel
theorem dX3_setFlag_21 : decode cX3_setFlag 21 = .ok (.ireturn, 1) := by decide +kernel
theorem dX3_setFlag_22 : decode cX3_setFlag 22 = .ok (.aload_n 0, 1) := by decide +kernel
theorem dX3_setFlag_23 : decode cX3_setFlag 23 = .ok (.invokevirtual 67, 3) := by decide +kernel
theorem dX3_setFlag_26 : decode cX3_setFlag 26 = .ok (.aload_n 0, 1) := by decide +kernel
theorem dX3_setFlag_27 : decode cX3_setFlag 27 = .ok (.getfield 7, 3) := by decide +kernel
theorem dX3_setFlag_30 : decode cX3_setFlag 30 = .ok (.bipush 7, 2) := by decide +kernel
theorem dX3_setFlag_32 : decode cX3_setFlag 32 = .ok (.iload_n 1, 1) := by decide +kernel
theorem dX3_setFlag_33 : decode cX3_setFlag 33 = .ok (.iadd, 1) := by decide +kernel
theorem dX3_setFlag_34 : decode cX3_setFlag 34 = .ok (.iaload, 1) := by decide +kernel
theorem dX3_setFlag_35 : decode cX3_setFlag 35 = .ok (.iconst 1, 1) := by decide +kernel
theorem dX3_setFlag_36 : decode cX3_setFlag 36 = .ok (.if_icmp .ne 7, 3) := by decide +kernel
theorem dX3_setFlag_39 : decode cX3_setFlag 39 = .ok (.iconst 1, 1) := by decide +kernel
theorem dX3_setFlag_40 : decode cX3_setFlag 40 = .ok (.goto 4, 3) := by decide +kernel
theorem dX3_setFlag_43 : decode cX3_setFlag 43 = .ok (.iconst 0, 1) := by decide +kernel
theorem dX3_setFlag_44 : decode cX3_setFlag 44 = .ok (.istore_n 3, 1) := by decide +kernel
theorem dX3_setFlag_45 : decode cX3_setFlag 45 = .ok (.aload_n 0, 1) := by decide +kernel
theorem dX3_setFlag_46 : decode cX3_setFlag 46 = .ok (.getfield 7, 3) := by decide +kernel
theorem dX3_setFlag_49 : decode cX3_setFlag 49 = .ok (.bipush 7, 2) := by decide +kernel
theorem dX3_setFlag_51 : decode cX3_setFlag 51 = .ok (.iload_n 1, 1) := by decide +kernel
theorem dX3_setFlag_52 : decode cX3_setFlag 52 = .ok (.iadd, 1) := by decide +kernel
theorem dX3_setFlag_53 : decode cX3_setFlag 53 = .ok (.iload_n 2, 1) := by decide +kernel
theorem dX3_setFlag_54 : decode cX3_setFlag 54 = .ok (.ifCond .eq 7, 3) := by decide +kernel
theorem dX3_setFlag_57 : decode cX3_setFlag 57 = .ok (.iconst 1, 1) := by decide +kernel
theorem dX3_setFlag_58 : decode cX3_setFlag 58 = .ok (.goto 4, 3) := by decide +kernel
theorem dX3_setFlag_61 : decode cX3_setFlag 61 = .ok (.iconst 0, 1) := by decide +kernel
theorem dX3_setFlag_62 : decode cX3_setFlag 62 = .ok (.iastore, 1) := by decide +kernel
theorem dX3_setFlag_63 : decode cX3_setFlag 63 = .ok (.iload_n 3, 1) := by decide +kernel
theorem dX3_setFlag_64 : decode cX3_setFlag 64 = .ok (.ireturn, 1) := by decide +kernel
theorem dX3_erase_0 : decode cX3_erase 0 = .ok (.aload_n 0, 1) := by decide +kernel
theorem dX3_erase_1 : decode cX3_erase 1 = .ok (.iload_n 1, 1) := by decide +kernel
theorem dX3_erase_2 : decode cX3_erase 2 = .ok (.invokevirtual 82, 3) := by decide +kernel
theorem dX3_erase_5 : decode cX3_erase 5 = .ok (.istore_n 2, 1) := by decide +kernel
theorem dX3_erase_6 : decode cX3_erase 6 = .ok (.aload_n 0, 1) := by decide +kernel
theorem dX3_erase_7 : decode cX3_erase 7 = .ok (.iload_n 2, 1) := by decide +kernel
theorem dX3_erase_8 : decode cX3_erase 8 = .ok (.ifCond .ne 7, 3) := by decide +kernel
theorem dX3_erase_11 : decode cX3_erase 11 = .ok (.iconst 1, 1) := by decide +kernel
theorem dX3_erase_12 : decode cX3_erase 12 = .ok (.goto 21, 3) := by decide +kernel
theorem dX3_erase_15 : decode cX3_erase 15 = .ok (.aload_n 0, 1) := by decide +kernel
theorem dX3_erase_16 : decode cX3_erase 16 = .ok (.getfield 7, 3) := by decide +kernel
theorem dX3_erase_19 : decode cX3_erase 19 = .ok (.bipush 7, 2) := by decide +kernel
theorem dX3_erase_21 : decode cX3_erase 21 = .ok (.iload_n 1, 1) := by decide +kernel
theorem dX3_erase_22 : decode cX3_erase 22 = .ok (.iadd, 1) := by decide +kernel
theorem dX3_erase_23 : decode cX3_erase 23 = .ok (.iaload, 1) := by decide +kernel
theorem dX3_erase_24 : decode cX3_erase 24 = .ok (.iconst 1, 1) := by decide +kernel
theorem dX3_erase_25 : decode cX3_erase 25 = .ok (.if_icmp .ne 7, 3) := by decide +kernel
theorem dX3_erase_28 : decode cX3_erase 28 = .ok (.iconst 2, 1) := by decide +kernel
theorem dX3_erase_29 : decode cX3_erase 29 = .ok (.goto 4, 3) := by decide +kernel
theorem dX3_erase_32 : decode cX3_erase 32 = .ok (.iconst 0, 1) := by decide +kernel
theorem dX3_erase_33 : decode cX3_erase 33 = .ok (.invokevirtual 64, 3) := by decide +kernel
theorem dX3_erase_36 : decode cX3_erase 36 = .ok (.ifCond .ne 5, 3) := by decide +kernel
theorem dX3_erase_39 : decode cX3_erase 39 = .ok (.iconst 0, 1) := by decide +kernel
theorem dX3_erase_40 : decode cX3_erase 40 = .ok (.ireturn, 1) := by decide +kernel
theorem dX3_erase_41 : decode cX3_erase 41 = .ok (.aload_n 0, 1) := by decide +kernel
theorem dX3_erase_42 : decode cX3_erase 42 = .ok (.invokevirtual 67, 3) := by decide +kernel
theorem dX3_erase_45 : decode cX3_erase 45 = .ok (.aload_n 0, 1) := by decide +kernel
theorem dX3_erase_46 : decode cX3_erase 46 = .ok (.iload_n 1, 1) := by decide +kernel
theorem dX3_erase_47 : decode cX3_erase 47 = .ok (.invokevirtual 32, 3) := by decide +kernel
theorem dX3_erase_50 : decode cX3_erase 50 = .ok (.istore_n 3, 1) := by decide +kernel
theorem dX3_erase_51 : decode cX3_erase 51 = .ok (.aload_n 0, 1) := by decide +kernel
theorem dX3_erase_52 : decode cX3_erase 52 = .ok (.iload_n 1, 1) := by decide +kernel
theorem dX3_erase_53 : decode cX3_erase 53 = .ok (.invokevirtual 35, 3) := by decide +kernel
theorem dX3_erase_56 : decode cX3_erase 56 = .ok (.iload_n 3, 1) := by decide +kernel
theorem dX3_erase_57 : decode cX3_erase 57 = .ok (.ireturn, 1) := by decide +kernel
theorem dX3_moveHead_0 : decode cX3_moveHead 0 = .ok (.aload_n 0, 1) := by decide +kernel
theorem dX3_moveHead_1 : decode cX3_moveHead 1 = .ok (.iload_n 1, 1) := by decide +kernel
theorem dX3_moveHead_2 : decode cX3_moveHead 2 = .ok (.invokestatic 85, 3) := by decide +kernel
theorem dX3_moveHead_5 : decode cX3_moveHead 5 = .ok (.ifCond .ne 7, 3) := by decide +kernel
theorem dX3_moveHead_8 : decode cX3_moveHead 8 = .ok (.iconst 1, 1) := by decide +kernel
theorem dX3_moveHead_9 : decode cX3_moveHead 9 = .ok (.goto 18, 3) := by decide +kernel
theorem dX3_moveHead_12 : decode cX3_moveHead 12 = .ok (.aload_n 0, 1) := by decide +kernel
theorem dX3_moveHead_13 : decode cX3_moveHead 13 = .ok (.getfield 7, 3) := by decide +kernel
theorem dX3_moveHead_16 : decode cX3_moveHead 16 = .ok (.iconst 1, 1) := by decide +kernel
theorem dX3_moveHead_17 : decode cX3_moveHead 17 = .ok (.iaload, 1) := by decide +kernel
theorem dX3_moveHead_18 : decode cX3_moveHead 18 = .ok (.iconst (-1), 1) := by decide +kernel
theorem dX3_moveHead_19 : decode cX3_moveHead 19 = .ok (.if_icmp .eq 7, 3) := by decide +kernel
theorem dX3_moveHead_22 : decode cX3_moveHead 22 = .ok (.iconst 2, 1) := by decide +kernel
theorem dX3_moveHead_23 : decode cX3_moveHead 23 = .ok (.goto 4, 3) := by decide +kernel
theorem dX3_moveHead_26 : decode cX3_moveHead 26 = .ok (.iconst 0, 1) := by decide +kernel
theorem dX3_moveHead_27 : decode cX3_moveHead 27 = .ok (.invokevirtual 64, 3) := by decide +kernel
theorem dX3_moveHead_30 : decode cX3_moveHead 30 = .ok (.ifCond .ne 5, 3) := by decide +kernel
theorem dX3_moveHead_33 : decode cX3_moveHead 33 = .ok (.iconst 0, 1) := by decide +kernel
theorem dX3_moveHead_34 : decode cX3_moveHead 34 = .ok (.ireturn, 1) := by decide +kernel
theorem dX3_moveHead_35 : decode cX3_moveHead 35 = .ok (.aload_n 0, 1) := by decide +kernel
theorem dX3_moveHead_36 : decode cX3_moveHead 36 = .ok (.invokevirtual 67, 3) := by decide +kernel
theorem dX3_moveHead_39 : decode cX3_moveHead 39 = .ok (.aload_n 0, 1) := by decide +kernel
theorem dX3_moveHead_40 : decode cX3_moveHead 40 = .ok (.getfield 7, 3) := by decide +kernel
theorem dX3_moveHead_43 : decode cX3_moveHead 43 = .ok (.iconst 2, 1) := by decide +kernel
theorem dX3_moveHead_44 : decode cX3_moveHead 44 = .ok (.iaload, 1) := by decide +kernel
theorem dX3_moveHead_45 : decode cX3_moveHead 45 = .ok (.istore_n 2, 1) := by decide +kernel
theorem dX3_moveHead_46 : decode cX3_moveHead 46 = .ok (.aload_n 0, 1) := by decide +kernel
theorem dX3_moveHead_47 : decode cX3_moveHead 47 = .ok (.getfield 7, 3) := by decide +kernel
theorem dX3_moveHead_50 : decode cX3_moveHead 50 = .ok (.iconst 2, 1) := by decide +kernel
theorem dX3_moveHead_51 : decode cX3_moveHead 51 = .ok (.iload_n 1, 1) := by decide +kernel
theorem dX3_moveHead_52 : decode cX3_moveHead 52 = .ok (.iastore, 1) := by decide +kernel
theorem dX3_moveHead_53 : decode cX3_moveHead 53 = .ok (.iload_n 2, 1) := by decide +kernel
theorem dX3_moveHead_54 : decode cX3_moveHead 54 = .ok (.ireturn, 1) := by decide +kernel
theorem dX3_recordings_0 : decode cX3_recordings 0 = .ok (.aload_n 0, 1) := by decide +kernel
theorem dX3_recordings_1 : decode cX3_recordings 1 = .ok (.aload_n 0, 1) := by decide +kernel
theorem dX3_recordings_2 : decode cX3_recordings 2 = .ok (.getfield 7, 3) := by decide +kernel
theorem dX3_recordings_5 : decode cX3_recordings 5 = .ok (.iconst 0, 1) := by decide +kernel
theorem dX3_recordings_6 : decode cX3_recordings 6 = .ok (.iaload, 1) := by decide +kernel
theorem dX3_recordings_7 : decode cX3_recordings 7 = .ok (.invokevirtual 88, 3) := by decide +kernel
theorem dX3_recordings_10 : decode cX3_recordings 10 = .ok (.ireturn, 1) := by decide +kernel
theorem dX3_running_0 : decode cX3_running 0 = .ok (.aload_n 0, 1) := by decide +kernel
theorem dX3_running_1 : decode cX3_running 1 = .ok (.aload_n 0, 1) := by decide +kernel
theorem dX3_running_2 : decode cX3_running 2 = .ok (.getfield 7, 3) := by decide +kernel
theorem dX3_running_5 : decode cX3_running 5 = .ok (.iconst 1, 1) := by decide +kernel
theorem dX3_running_6 : decode cX3_running 6 = .ok (.iaload, 1) := by decide +kernel
theorem dX3_running_7 : decode cX3_running 7 = .ok (.invokevirtual 88, 3) := by decide +kernel
theorem dX3_running_10 : decode cX3_running 10 = .ok (.ireturn, 1) := by decide +kernel
theorem dX3_head_0 : decode cX3_head 0 = .ok (.aload_n 0, 1) := by decide +kernel
theorem dX3_head_1 : decode cX3_head 1 = .ok (.aload_n 0, 1) := by decide +kernel
theorem dX3_head_2 : decode cX3_head 2 = .ok (.getfield 7, 3) := by decide +kernel
theorem dX3_head_5 : decode cX3_head 5 = .ok (.iconst 2, 1) := by decide +kernel
theorem dX3_head_6 : decode cX3_head 6 = .ok (.iaload, 1) := by decide +kernel
theorem dX3_head_7 : decode cX3_head 7 = .ok (.invokevirtual 88, 3) := by decide +kernel
theorem dX3_head_10 : decode cX3_head 10 = .ok (.ireturn, 1) := by decide +kernel
theorem dX3_length_0 : decode cX3_length 0 = .ok (.aload_n 0, 1) := by decide +kernel
theorem dX3_length_1 : decode cX3_length 1 = .ok (.aload_n 0, 1) := by decide +kernel
theorem dX3_length_2 : decode cX3_length 2 = .ok (.iload_n 1, 1) := by decide +kernel
theorem dX3_length_3 : decode cX3_length 3 = .ok (.invokevirtual 82, 3) := by decide +kernel
theorem dX3_length_6 : decode cX3_length 6 = .ok (.ifCond .eq 7, 3) := by decide +kernel
theorem dX3_length_9 : decode cX3_length 9 = .ok (.iconst 0, 1) := by decide +kernel
theorem dX3_length_10 : decode cX3_length 10 = .ok (.goto 4, 3) := by decide +kernel
theorem dX3_length_13 : decode cX3_length 13 = .ok (.iconst 1, 1) := by decide +kernel
theorem dX3_length_14 : decode cX3_length 14 = .ok (.invokevirtual 64, 3) := by decide +kernel
theorem dX3_length_17 : decode cX3_length 17 = .ok (.ifCond .eq 11, 3) := by decide +kernel
theorem dX3_length_20 : decode cX3_length 20 = .ok (.aload_n 0, 1) := by decide +kernel
theorem dX3_length_21 : decode cX3_length 21 = .ok (.iload_n 1, 1) := by decide +kernel
theorem dX3_length_22 : decode cX3_length 22 = .ok (.invokevirtual 32, 3) := by decide +kernel
theorem dX3_length_25 : decode cX3_length 25 = .ok (.goto 4, 3) := by decide +kernel
theorem dX3_length_28 : decode cX3_length 28 = .ok (.iconst 0, 1) := by decide +kernel
theorem dX3_length_29 : decode cX3_length 29 = .ok (.ireturn, 1) := by decide +kernel
theorem dX3_ofPlace_0 : decode cX3_ofPlace 0 = .ok (.aload_n 0, 1) := by decide +kernel
theorem dX3_ofPlace_1 : decode cX3_ofPlace 1 = .ok (.aload_n 0, 1) := by decide +kernel
theorem dX3_ofPlace_2 : decode cX3_ofPlace 2 = .ok (.iload_n 1, 1) := by decide +kernel
theorem dX3_ofPlace_3 : decode cX3_ofPlace 3 = .ok (.invokevirtual 82, 3) := by decide +kernel
theorem dX3_ofPlace_6 : decode cX3_ofPlace 6 = .ok (.ifCond .eq 11, 3) := by decide +kernel
theorem dX3_ofPlace_9 : decode cX3_ofPlace 9 = .ok (.iload_n 2, 1) := by decide +kernel
theorem dX3_ofPlace_10 : decode cX3_ofPlace 10 = .ok (.ifCond .lt 7, 3) := by decide +kernel
theorem dX3_ofPlace_13 : decode cX3_ofPlace 13 = .ok (.iconst 0, 1) := by decide +kernel
theorem dX3_ofPlace_14 : decode cX3_ofPlace 14 = .ok (.goto 4, 3) := by decide +kernel
theorem dX3_ofPlace_17 : decode cX3_ofPlace 17 = .ok (.iconst 1, 1) := by decide +kernel
theorem dX3_ofPlace_18 : decode cX3_ofPlace 18 = .ok (.invokevirtual 64, 3) := by decide +kernel
theorem dX3_ofPlace_21 : decode cX3_ofPlace 21 = .ok (.ifCond .ne 5, 3) := by decide +kernel
theorem dX3_ofPlace_24 : decode cX3_ofPlace 24 = .ok (.iconst 0, 1) := by decide +kernel
theorem dX3_ofPlace_25 : decode cX3_ofPlace 25 = .ok (.ireturn, 1) := by decide +kernel
theorem dX3_ofPlace_26 : decode cX3_ofPlace 26 = .ok (.aload_n 0, 1) := by decide +kernel
theorem dX3_ofPlace_27 : decode cX3_ofPlace 27 = .ok (.iload_n 1, 1) := by decide +kernel
theorem dX3_ofPlace_28 : decode cX3_ofPlace 28 = .ok (.iload_n 2, 1) := by decide +kernel
theorem dX3_ofPlace_29 : decode cX3_ofPlace 29 = .ok (.invokevirtual 49, 3) := by decide +kernel
theorem dX3_ofPlace_32 : decode cX3_ofPlace 32 = .ok (.istore 4, 2) := by decide +kernel
theorem dX3_ofPlace_34 : decode cX3_ofPlace 34 = .ok (.iload 4, 2) := by decide +kernel
theorem dX3_ofPlace_36 : decode cX3_ofPlace 36 = .ok (.iconst (-1), 1) := by decide +kernel
theorem dX3_ofPlace_37 : decode cX3_ofPlace 37 = .ok (.if_icmp .eq 7, 3) := by decide +kernel
theorem dX3_ofPlace_40 : decode cX3_ofPlace 40 = .ok (.iload_n 3, 1) := by decide +kernel
theorem dX3_ofPlace_41 : decode cX3_ofPlace 41 = .ok (.ifCond .ne 8, 3) := by decide +kernel
theorem dX3_ofPlace_44 : decode cX3_ofPlace 44 = .ok (.iload 4, 2) := by decide +kernel
theorem dX3_ofPlace_46 : decode cX3_ofPlace 46 = .ok (.goto 12, 3) := by decide +kernel
theorem dX3_ofPlace_49 : decode cX3_ofPlace 49 = .ok (.aload_n 0, 1) := by decide +kernel
theorem dX3_ofPlace_50 : decode cX3_ofPlace 50 = .ok (.getfield 7, 3) := by decide +kernel
theorem dX3_ofPlace_53 : decode cX3_ofPlace 53 = .ok (.iload_n 3, 1) := by decide +kernel
theorem dX3_ofPlace_54 : decode cX3_ofPlace 54 = .ok (.iload 4, 2) := by decide +kernel
theorem dX3_ofPlace_56 : decode cX3_ofPlace 56 = .ok (.iadd, 1) := by decide +kernel
theorem dX3_ofPlace_57 : decode cX3_ofPlace 57 = .ok (.iaload, 1) := by decide +kernel
theorem dX3_ofPlace_58 : decode cX3_ofPlace 58 = .ok (.ireturn, 1) := by decide +kernel
theorem dX3_sound_0 : decode cX3_sound 0 = .ok (.aload_n 0, 1) := by decide +kernel
theorem dX3_sound_1 : decode cX3_sound 1 = .ok (.iload_n 1, 1) := by decide +kernel
theorem dX3_sound_2 : decode cX3_sound 2 = .ok (.iload_n 2, 1) := by decide +kernel
theorem dX3_sound_3 : decode cX3_sound 3 = .ok (.bipush 59, 2) := by decide +kernel
theorem dX3_sound_5 : decode cX3_sound 5 = .ok (.invokevirtual 91, 3) := by decide +kernel
theorem dX3_sound_8 : decode cX3_sound 8 = .ok (.ireturn, 1) := by decide +kernel
theorem dX3_cellOf_0 : decode cX3_cellOf 0 = .ok (.aload_n 0, 1) := by decide +kernel
theorem dX3_cellOf_1 : decode cX3_cellOf 1 = .ok (.iload_n 1, 1) := by decide +kernel
theorem dX3_cellOf_2 : decode cX3_cellOf 2 = .ok (.iload_n 2, 1) := by decide +kernel
theorem dX3_cellOf_3 : decode cX3_cellOf 3 = .ok (.iconst 0, 1) := by decide +kernel
theorem dX3_cellOf_4 : decode cX3_cellOf 4 = .ok (.invokevirtual 91, 3) := by decide +kernel
theorem dX3_cellOf_7 : decode cX3_cellOf 7 = .ok (.ireturn, 1) := by decide +kernel
theorem dX3_hasFlag_0 : decode cX3_hasFlag 0 = .ok (.aload_n 0, 1) := by decide +kernel
theorem dX3_hasFlag_1 : decode cX3_hasFlag 1 = .ok (.aload_n 0, 1) := by decide +kernel
theorem dX3_hasFlag_2 : decode cX3_hasFlag 2 = .ok (.iload_n 1, 1) := by decide +kernel
theorem dX3_hasFlag_3 : decode cX3_hasFlag 3 = .ok (.invokevirtual 82, 3) := by decide +kernel
theorem dX3_hasFlag_6 : decode cX3_hasFlag 6 = .ok (.ifCond .eq 7, 3) := by decide +kernel
theorem dX3_hasFlag_9 : decode cX3_hasFlag 9 = .ok (.iconst 0, 1) := by decide +kernel
theorem dX3_hasFlag_10 : decode cX3_hasFlag 10 = .ok (.goto 4, 3) := by decide +kernel
theorem dX3_hasFlag_13 : decode cX3_hasFlag 13 = .ok (.iconst 1, 1) := by decide +kernel
theorem dX3_hasFlag_14 : decode cX3_hasFlag 14 = .ok (.invokevirtual 64, 3) := by decide +kernel
theorem dX3_hasFlag_17 : decode cX3_hasFlag 17 = .ok (.ifCond .eq 20, 3) := by decide +kernel
theorem dX3_hasFlag_20 : decode cX3_hasFlag 20 = .ok (.aload_n 0, 1) := by decide +kernel
theorem dX3_hasFlag_21 : decode cX3_hasFlag 21 = .ok (.getfield 7, 3) := by decide +kernel
theorem dX3_hasFlag_24 : decode cX3_hasFlag 24 = .ok (.bipush 7, 2) := by decide +kernel
theorem dX3_hasFlag_26 : decode cX3_hasFlag 26 = .ok (.iload_n 1, 1) := by decide +kernel
theorem dX3_hasFlag_27 : decode cX3_hasFlag 27 = .ok (.iadd, 1) := by decide +kernel
theorem dX3_hasFlag_28 : decode cX3_hasFlag 28 = .ok (.iaload, 1) := by decide +kernel
theorem dX3_hasFlag_29 : decode cX3_hasFlag 29 = .ok (.iconst 1, 1) := by decide +kernel
theorem dX3_hasFlag_30 : decode cX3_hasFlag 30 = .ok (.if_icmp .ne 7, 3) := by decide +kernel
theorem dX3_hasFlag_33 : decode cX3_hasFlag 33 = .ok (.iconst 1, 1) := by decide +kernel
theorem dX3_hasFlag_34 : decode cX3_hasFlag 34 = .ok (.goto 4, 3) := by decide +kernel
theorem dX3_hasFlag_37 : decode cX3_hasFlag 37 = .ok (.iconst 0, 1) := by decide +kernel
theorem dX3_hasFlag_38 : decode cX3_hasFlag 38 = .ok (.ireturn, 1) := by decide +kernel
theorem dX3_lost_0 : decode cX3_lost 0 = .ok (.aload_n 0, 1) := by decide +kernel
theorem dX3_lost_1 : decode cX3_lost 1 = .ok (.aload_n 0, 1) := by decide +kernel
theorem dX3_lost_2 : decode cX3_lost 2 = .ok (.iload_n 1, 1) := by decide +kernel
theorem dX3_lost_3 : decode cX3_lost 3 = .ok (.invokevirtual 82, 3) := by decide +kernel
theorem dX3_lost_6 : decode cX3_lost 6 = .ok (.ifCond .eq 7, 3) := by decide +kernel
theorem dX3_lost_9 : decode cX3_lost 9 = .ok (.iconst 0, 1) := by decide +kernel
theorem dX3_lost_10 : decode cX3_lost 10 = .ok (.goto 4, 3) := by decide +kernel
theorem dX3_lost_13 : decode cX3_lost 13 = .ok (.iconst 1, 1) := by decide +kernel
theorem dX3_lost_14 : decode cX3_lost 14 = .ok (.invokevirtual 64, 3) := by decide +kernel
theorem dX3_lost_17 : decode cX3_lost 17 = .ok (.ifCond .eq 15, 3) := by decide +kernel
theorem dX3_lost_20 : decode cX3_lost 20 = .ok (.aload_n 0, 1) := by decide +kernel
theorem dX3_lost_21 : decode cX3_lost 21 = .ok (.getfield 7, 3) := by decide +kernel
theorem dX3_lost_24 : decode cX3_lost 24 = .ok (.bipush 17, 2) := by decide +kernel
theorem dX3_lost_26 : decode cX3_lost 26 = .ok (.iload_n 1, 1) := by decide +kernel
theorem dX3_lost_27 : decode cX3_lost 27 = .ok (.iadd, 1) := by decide +kernel
theorem dX3_lost_28 : decode cX3_lost 28 = .ok (.iaload, 1) := by decide +kernel
theorem dX3_lost_29 : decode cX3_lost 29 = .ok (.goto 4, 3) := by decide +kernel
theorem dX3_lost_32 : decode cX3_lost 32 = .ok (.iconst 0, 1) := by decide +kernel
theorem dX3_lost_33 : decode cX3_lost 33 = .ok (.ireturn, 1) := by decide +kernel
theorem dX3_owner_0 : decode cX3_owner 0 = .ok (.aload_n 0, 1) := by decide +kernel
theorem dX3_owner_1 : decode cX3_owner 1 = .ok (.iload_n 1, 1) := by decide +kernel
theorem dX3_owner_2 : decode cX3_owner 2 = .ok (.invokestatic 85, 3) := by decide +kernel
theorem dX3_owner_5 : decode cX3_owner 5 = .ok (.ifCond .eq 7, 3) := by decide +kernel
theorem dX3_owner_8 : decode cX3_owner 8 = .ok (.iconst 0, 1) := by decide +kernel
theorem dX3_owner_9 : decode cX3_owner 9 = .ok (.goto 4, 3) := by decide +kernel
theorem dX3_owner_12 : decode cX3_owner 12 = .ok (.iconst 1, 1) := by decide +kernel
theorem dX3_owner_13 : decode cX3_owner 13 = .ok (.invokevirtual 64, 3) := by decide +kernel
theorem dX3_owner_16 : decode cX3_owner 16 = .ok (.ifCond .eq 15, 3) := by decide +kernel
theorem dX3_owner_19 : decode cX3_owner 19 = .ok (.aload_n 0, 1) := by decide +kernel
theorem dX3_owner_20 : decode cX3_owner 20 = .ok (.getfield 7, 3) := by decide +kernel
theorem dX3_owner_23 : decode cX3_owner 23 = .ok (.bipush 27, 2) := by decide +kernel
theorem dX3_owner_25 : decode cX3_owner 25 = .ok (.iload_n 1, 1) := by decide +kernel
theorem dX3_owner_26 : decode cX3_owner 26 = .ok (.iadd, 1) := by decide +kernel
theorem dX3_owner_27 : decode cX3_owner 27 = .ok (.iaload, 1) := by decide +kernel
theorem dX3_owner_28 : decode cX3_owner 28 = .ok (.goto 4, 3) := by decide +kernel
theorem dX3_owner_31 : decode cX3_owner 31 = .ok (.iconst 0, 1) := by decide +kernel
theorem dX3_owner_32 : decode cX3_owner 32 = .ok (.ireturn, 1) := by decide +kernel
theorem dX3_free_0 : decode cX3_free 0 = .ok (.aload_n 0, 1) := by decide +kernel
theorem dX3_free_1 : decode cX3_free 1 = .ok (.aload_n 0, 1) := by decide +kernel
theorem dX3_free_2 : decode cX3_free 2 = .ok (.iconst (-1), 1) := by decide +kernel
theorem dX3_free_3 : decode cX3_free 3 = .ok (.invokevirtual 32, 3) := by decide +kernel
theorem dX3_free_6 : decode cX3_free 6 = .ok (.invokevirtual 88, 3) := by decide +kernel
theorem dX3_free_9 : decode cX3_free 9 = .ok (.ireturn, 1) := by decide +kernel
theorem dX3_spoken_0 : decode cX3_spoken 0 = .ok (.aload_n 0, 1) := by decide +kernel
theorem dX3_spoken_1 : decode cX3_spoken 1 = .ok (.aload_n 0, 1) := by decide +kernel
theorem dX3_spoken_2 : decode cX3_spoken 2 = .ok (.getfield 7, 3) := by decide +kernel
theorem dX3_spoken_5 : decode cX3_spoken 5 = .ok (.iconst 3, 1) := by decide +kernel
theorem dX3_spoken_6 : decode cX3_spoken 6 = .ok (.iaload, 1) := by decide +kernel
theorem dX3_spoken_7 : decode cX3_spoken 7 = .ok (.invokevirtual 88, 3) := by decide +kernel
theorem dX3_spoken_10 : decode cX3_spoken 10 = .ok (.ireturn, 1) := by decide +kernel
theorem dX3_gone_0 : decode cX3_gone 0 = .ok (.aload_n 0, 1) := by decide +kernel
theorem dX3_gone_1 : decode cX3_gone 1 = .ok (.aload_n 0, 1) := by decide +kernel
theorem dX3_gone_2 : decode cX3_gone 2 = .ok (.getfield 7, 3) := by decide +kernel
theorem dX3_gone_5 : decode cX3_gone 5 = .ok (.iconst 4, 1) := by decide +kernel
theorem dX3_gone_6 : decode cX3_gone 6 = .ok (.iaload, 1) := by decide +kernel
theorem dX3_gone_7 : decode cX3_gone 7 = .ok (.invokevirtual 88, 3) := by decide +kernel
theorem dX3_gone_10 : decode cX3_gone 10 = .ok (.ireturn, 1) := by decide +kernel
theorem dX3_usedShare_0 : decode cX3_usedShare 0 = .ok (.aload_n 0, 1) := by decide +kernel
theorem dX3_usedShare_1 : decode cX3_usedShare 1 = .ok (.iconst 0, 1) := by decide +kernel
theorem dX3_usedShare_2 : decode cX3_usedShare 2 = .ok (.putfield 16, 3) := by decide +kernel
theorem dX3_usedShare_5 : decode cX3_usedShare 5 = .ok (.bipush 32, 2) := by decide +kernel
theorem dX3_usedShare_7 : decode cX3_usedShare 7 = .ok (.aload_n 0, 1) := by decide +kernel
theorem dX3_usedShare_8 : decode cX3_usedShare 8 = .ok (.iconst (-1), 1) := by decide +kernel
theorem dX3_usedShare_9 : decode cX3_usedShare 9 = .ok (.invokevirtual 32, 3) := by decide +kernel
theorem dX3_usedShare_12 : decode cX3_usedShare 12 = .ok (.isub, 1) := by decide +kernel
theorem dX3_usedShare_13 : decode cX3_usedShare 13 = .ok (.i2d, 1) := by decide +kernel
