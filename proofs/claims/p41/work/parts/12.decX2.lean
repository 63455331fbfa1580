theorem dX2_init_0 : decode cX2_init 0 = .ok (.aload_n 0, 1) := by decide +kernel
theorem dX2_init_1 : decode cX2_init 1 = .ok (.invokespecial 1, 3) := by decide +kernel
theorem dX2_init_4 : decode cX2_init 4 = .ok (.aload_n 0, 1) := by decide +kernel
theorem dX2_init_5 : decode cX2_init 5 = .ok (.new 7, 3) := by decide +kernel
theorem dX2_init_8 : decode cX2_init 8 = .ok (.dup, 1) := by decide +kernel
theorem dX2_init_9 : decode cX2_init 9 = .ok (.invokespecial 9, 3) := by decide +kernel
theorem dX2_init_12 : decode cX2_init 12 = .ok (.putfield 10, 3) := by decide +kernel
theorem dX2_init_15 : decode cX2_init 15 = .ok (.aload_n 0, 1) := by decide +kernel
theorem dX2_init_16 : decode cX2_init 16 = .ok (.bipush 6, 2) := by decide +kernel
theorem dX2_init_18 : decode cX2_init 18 = .ok (.anewarray 7, 3) := by decide +kernel
theorem dX2_init_21 : decode cX2_init 21 = .ok (.putfield 16, 3) := by decide +kernel
theorem dX2_init_24 : decode cX2_init 24 = .ok (.iconst 0, 1) := by decide +kernel
theorem dX2_init_25 : decode cX2_init 25 = .ok (.istore_n 1, 1) := by decide +kernel
theorem dX2_init_26 : decode cX2_init 26 = .ok (.iload_n 1, 1) := by decide +kernel
theorem dX2_init_27 : decode cX2_init 27 = .ok (.bipush 6, 2) := by decide +kernel
theorem dX2_init_29 : decode cX2_init 29 = .ok (.if_icmp .ge 22, 3) := by decide +kernel
theorem dX2_init_32 : decode cX2_init 32 = .ok (.aload_n 0, 1) := by decide +kernel
theorem dX2_init_33 : decode cX2_init 33 = .ok (.getfield 16, 3) := by decide +kernel
theorem dX2_init_36 : decode cX2_init 36 = .ok (.iload_n 1, 1) := by decide +kernel
theorem dX2_init_37 : decode cX2_init 37 = .ok (.new 7, 3) := by decide +kernel
theorem dX2_init_40 : decode cX2_init 40 = .ok (.dup, 1) := by decide +kernel
theorem dX2_init_41 : decode cX2_init 41 = .ok (.invokespecial 9, 3) := by decide +kernel
theorem dX2_init_44 : decode cX2_init 44 = .ok (.aastore, 1) := by decide +kernel
theorem dX2_init_45 : decode cX2_init 45 = .ok (.iinc 1 1, 3) := by decide +kernel
theorem dX2_init_48 : decode cX2_init 48 = .ok (.goto (-22), 3) := by decide +kernel
theorem dX2_init_51 : decode cX2_init 51 = .ok (.aload_n 0, 1) := by decide +kernel
theorem dX2_init_52 : decode cX2_init 52 = .ok (.iconst 0, 1) := by decide +kernel
theorem dX2_init_53 : decode cX2_init 53 = .ok (.putfield 20, 3) := by decide +kernel
theorem dX2_init_56 : decode cX2_init 56 = .ok (.aload_n 0, 1) := by decide +kernel
theorem dX2_init_57 : decode cX2_init 57 = .ok (.iconst 0, 1) := by decide +kernel
theorem dX2_init_58 : decode cX2_init 58 = .ok (.putfield 24, 3) := by decide +kernel
theorem dX2_init_61 : decode cX2_init 61 = .ok (.aload_n 0, 1) := by decide +kernel
theorem dX2_init_62 : decode cX2_init 62 = .ok (.new 27, 3) := by decide +kernel
theorem dX2_init_65 : decode cX2_init 65 = .ok (.dup, 1) := by decide +kernel
theorem dX2_init_66 : decode cX2_init 66 = .ok (.invokespecial 29, 3) := by decide +kernel
theorem dX2_init_69 : decode cX2_init 69 = .ok (.putfield 30, 3) := by decide +kernel
theorem dX2_init_72 : decode cX2_init 72 = .ok (.return_, 1) := by decide +kernel
theorem dX2_begin_0 : decode cX2_begin 0 = .ok (.aload_n 0, 1) := by decide +kernel
theorem dX2_begin_1 : decode cX2_begin 1 = .ok (.getfield 10, 3) := by decide +kernel
theorem dX2_begin_4 : decode cX2_begin 4 = .ok (.invokevirtual 34, 3) := by decide +kernel
theorem dX2_begin_7 : decode cX2_begin 7 = .ok (.ifCond .ne 13, 3) := by decide +kernel
theorem dX2_begin_10 : decode cX2_begin 10 = .ok (.new 38, 3) := by decide +kernel
theorem dX2_begin_13 : decode cX2_begin 13 = .ok (.dup, 1) := by decide +kernel
theorem dX2_begin_14 : decode cX2_begin 14 = .ok (.ldc 40, 2) := by decide +kernel
theorem dX2_begin_16 : decode cX2_begin 16 = .ok (.invokespecial 42, 3) := by decide +kernel
theorem dX2_begin_19 : decode cX2_begin 19 = .ok (.athrow, 1) := by decide +kernel
theorem dX2_begin_20 : decode cX2_begin 20 = .ok (.aload_n 0, 1) := by decide +kernel
theorem dX2_begin_21 : decode cX2_begin 21 = .ok (.invokevirtual 45, 3) := by decide +kernel
theorem dX2_begin_24 : decode cX2_begin 24 = .ok (.aload_n 0, 1) := by decide +kernel
theorem dX2_begin_25 : decode cX2_begin 25 = .ok (.getfield 10, 3) := by decide +kernel
theorem dX2_begin_28 : decode cX2_begin 28 = .ok (.invokevirtual 48, 3) := by decide +kernel
theorem dX2_begin_31 : decode cX2_begin 31 = .ok (.ireturn, 1) := by decide +kernel
theorem dX2_halt_0 : decode cX2_halt 0 = .ok (.aload_n 0, 1) := by decide +kernel
theorem dX2_halt_1 : decode cX2_halt 1 = .ok (.getfield 10, 3) := by decide +kernel
theorem dX2_halt_4 : decode cX2_halt 4 = .ok (.getfield 52, 3) := by decide +kernel
theorem dX2_halt_7 : decode cX2_halt 7 = .ok (.ifCond .ne 13, 3) := by decide +kernel
theorem dX2_halt_10 : decode cX2_halt 10 = .ok (.new 38, 3) := by decide +kernel
theorem dX2_halt_13 : decode cX2_halt 13 = .ok (.dup, 1) := by decide +kernel
theorem dX2_halt_14 : decode cX2_halt 14 = .ok (.ldc 56, 2) := by decide +kernel
theorem dX2_halt_16 : decode cX2_halt 16 = .ok (.invokespecial 42, 3) := by decide +kernel
theorem dX2_halt_19 : decode cX2_halt 19 = .ok (.athrow, 1) := by decide +kernel
theorem dX2_halt_20 : decode cX2_halt 20 = .ok (.aload_n 0, 1) := by decide +kernel
theorem dX2_halt_21 : decode cX2_halt 21 = .ok (.invokevirtual 45, 3) := by decide +kernel
theorem dX2_halt_24 : decode cX2_halt 24 = .ok (.aload_n 0, 1) := by decide +kernel
theorem dX2_halt_25 : decode cX2_halt 25 = .ok (.getfield 10, 3) := by decide +kernel
theorem dX2_halt_28 : decode cX2_halt 28 = .ok (.invokevirtual 58, 3) := by decide +kernel
theorem dX2_halt_31 : decode cX2_halt 31 = .ok (.ireturn, 1) := by decide +kernel
theorem dX2_speak_0 : decode cX2_speak 0 = .ok (.iload_n 1, 1) := by decide +kernel
theorem dX2_speak_1 : decode cX2_speak 1 = .ok (.invokestatic 61, 3) := by decide +kernel
theorem dX2_speak_4 : decode cX2_speak 4 = .ok (.aload_n 0, 1) := by decide +kernel
theorem dX2_speak_5 : decode cX2_speak 5 = .ok (.getfield 10, 3) := by decide +kernel
theorem dX2_speak_8 : decode cX2_speak 8 = .ok (.iconst 1, 1) := by decide +kernel
theorem dX2_speak_9 : decode cX2_speak 9 = .ok (.invokevirtual 65, 3) := by decide +kernel
theorem dX2_speak_12 : decode cX2_speak 12 = .ok (.ifCond .ne 13, 3) := by decide +kernel
theorem dX2_speak_15 : decode cX2_speak 15 = .ok (.new 38, 3) := by decide +kernel
theorem dX2_speak_18 : decode cX2_speak 18 = .ok (.dup, 1) := by decide +kernel
theorem dX2_speak_19 : decode cX2_speak 19 = .ok (.ldc 69, 2) := by decide +kernel
theorem dX2_speak_21 : decode cX2_speak 21 = .ok (.invokespecial 42, 3) := by decide +kernel
theorem dX2_speak_24 : decode cX2_speak 24 = .ok (.athrow, 1) := by decide +kernel
theorem dX2_speak_25 : decode cX2_speak 25 = .ok (.aload_n 0, 1) := by decide +kernel
theorem dX2_speak_26 : decode cX2_speak 26 = .ok (.invokevirtual 45, 3) := by decide +kernel
theorem dX2_speak_29 : decode cX2_speak 29 = .ok (.aload_n 0, 1) := by decide +kernel
theorem dX2_speak_30 : decode cX2_speak 30 = .ok (.getfield 10, 3) := by decide +kernel
theorem dX2_speak_33 : decode cX2_speak 33 = .ok (.iconst 1, 1) := by decide +kernel
theorem dX2_speak_34 : decode cX2_speak 34 = .ok (.iload_n 1, 1) := by decide +kernel
theorem dX2_speak_35 : decode cX2_speak 35 = .ok (.invokevirtual 71, 3) := by decide +kernel
theorem dX2_speak_38 : decode cX2_speak 38 = .ok (.ireturn, 1) := by decide +kernel
theorem dX2_setFlag_0 : decode cX2_setFlag 0 = .ok (.aload_n 0, 1) := by decide +kernel
theorem dX2_setFlag_1 : decode cX2_setFlag 1 = .ok (.iload_n 1, 1) := by decide +kernel
theorem dX2_setFlag_2 : decode cX2_setFlag 2 = .ok (.invokevirtual 75, 3) := by decide +kernel
theorem dX2_setFlag_5 : decode cX2_setFlag 5 = .ok (.aload_n 0, 1) := by decide +kernel
theorem dX2_setFlag_6 : decode cX2_setFlag 6 = .ok (.invokevirtual 45, 3) := by decide +kernel
theorem dX2_setFlag_9 : decode cX2_setFlag 9 = .ok (.aload_n 0, 1) := by decide +kernel
theorem dX2_setFlag_10 : decode cX2_setFlag 10 = .ok (.getfield 10, 3) := by decide +kernel
theorem dX2_setFlag_13 : decode cX2_setFlag 13 = .ok (.iload_n 1, 1) := by decide +kernel
theorem dX2_setFlag_14 : decode cX2_setFlag 14 = .ok (.invokevirtual 78, 3) := by decide +kernel
theorem dX2_setFlag_17 : decode cX2_setFlag 17 = .ok (.istore_n 3, 1) := by decide +kernel
theorem dX2_setFlag_18 : decode cX2_setFlag 18 = .ok (.aload_n 0, 1) := by decide +kernel
theorem dX2_setFlag_19 : decode cX2_setFlag 19 = .ok (.getfield 10, 3) := by decide +kernel
theorem dX2_setFlag_22 : decode cX2_setFlag 22 = .ok (.iload_n 1, 1) := by decide +kernel
theorem dX2_setFlag_23 : decode cX2_setFlag 23 = .ok (.iload_n 2, 1) := by decide +kernel
theorem dX2_setFlag_24 : decode cX2_setFlag 24 = .ok (.invokevirtual 81, 3) := by decide +kernel
theorem dX2_setFlag_27 : decode cX2_setFlag 27 = .ok (.iload_n 3, 1) := by decide +kernel
theorem dX2_setFlag_28 : decode cX2_setFlag 28 = .ok (.ireturn, 1) := by decide +kernel
theorem dX2_erase_0 : decode cX2_erase 0 = .ok (.aload_n 0, 1) := by decide +kernel
theorem dX2_erase_1 : decode cX2_erase 1 = .ok (.iload_n 1, 1) := by decide +kernel
theorem dX2_erase_2 : decode cX2_erase 2 = .ok (.invokevirtual 75, 3) := by decide +kernel
theorem dX2_erase_5 : decode cX2_erase 5 = .ok (.aload_n 0, 1) := by decide +kernel
theorem dX2_erase_6 : decode cX2_erase 6 = .ok (.getfield 10, 3) := by decide +kernel
theorem dX2_erase_9 : decode cX2_erase 9 = .ok (.iload_n 1, 1) := by decide +kernel
theorem dX2_erase_10 : decode cX2_erase 10 = .ok (.invokevirtual 78, 3) := by decide +kernel
theorem dX2_erase_13 : decode cX2_erase 13 = .ok (.ifCond .eq 13, 3) := by decide +kernel
theorem dX2_erase_16 : decode cX2_erase 16 = .ok (.new 38, 3) := by decide +kernel
theorem dX2_erase_19 : decode cX2_erase 19 = .ok (.dup, 1) := by decide +kernel
theorem dX2_erase_20 : decode cX2_erase 20 = .ok (.ldc 85, 2) := by decide +kernel
theorem dX2_erase_22 : decode cX2_erase 22 = .ok (.invokespecial 42, 3) := by decide +kernel
theorem dX2_erase_25 : decode cX2_erase 25 = .ok (.athrow, 1) := by decide +kernel
theorem dX2_erase_26 : decode cX2_erase 26 = .ok (.aload_n 0, 1) := by decide +kernel
theorem dX2_erase_27 : decode cX2_erase 27 = .ok (.invokevirtual 45, 3) := by decide +kernel
theorem dX2_erase_30 : decode cX2_erase 30 = .ok (.aload_n 0, 1) := by decide +kernel
theorem dX2_erase_31 : decode cX2_erase 31 = .ok (.getfield 10, 3) := by decide +kernel
theorem dX2_erase_34 : decode cX2_erase 34 = .ok (.iload_n 1, 1) := by decide +kernel
theorem dX2_erase_35 : decode cX2_erase 35 = .ok (.invokevirtual 87, 3) := by decide +kernel
theorem dX2_erase_38 : decode cX2_erase 38 = .ok (.ireturn, 1) := by decide +kernel
theorem dX2_moveHead_0 : decode cX2_moveHead 0 = .ok (.iload_n 1, 1) := by decide +kernel
theorem dX2_moveHead_1 : decode cX2_moveHead 1 = .ok (.invokestatic 91, 3) := by decide +kernel
theorem dX2_moveHead_4 : decode cX2_moveHead 4 = .ok (.aload_n 0, 1) := by decide +kernel
theorem dX2_moveHead_5 : decode cX2_moveHead 5 = .ok (.getfield 10, 3) := by decide +kernel
theorem dX2_moveHead_8 : decode cX2_moveHead 8 = .ok (.getfield 52, 3) := by decide +kernel
theorem dX2_moveHead_11 : decode cX2_moveHead 11 = .ok (.ifCond .eq 13, 3) := by decide +kernel
theorem dX2_moveHead_14 : decode cX2_moveHead 14 = .ok (.new 38, 3) := by decide +kernel
theorem dX2_moveHead_17 : decode cX2_moveHead 17 = .ok (.dup, 1) := by decide +kernel
theorem dX2_moveHead_18 : decode cX2_moveHead 18 = .ok (.ldc 94, 2) := by decide +kernel
theorem dX2_moveHead_20 : decode cX2_moveHead 20 = .ok (.invokespecial 42, 3) := by decide +kernel
theorem dX2_moveHead_23 : decode cX2_moveHead 23 = .ok (.athrow, 1) := by decide +kernel
theorem dX2_moveHead_24 : decode cX2_moveHead 24 = .ok (.aload_n 0, 1) := by decide +kernel
theorem dX2_moveHead_25 : decode cX2_moveHead 25 = .ok (.invokevirtual 45, 3) := by decide +kernel
theorem dX2_moveHead_28 : decode cX2_moveHead 28 = .ok (.aload_n 0, 1) := by decide +kernel
theorem dX2_moveHead_29 : decode cX2_moveHead 29 = .ok (.getfield 10, 3) := by decide +kernel
theorem dX2_moveHead_32 : decode cX2_moveHead 32 = .ok (.getfield 96, 3) := by decide +kernel
theorem dX2_moveHead_35 : decode cX2_moveHead 35 = .ok (.istore_n 2, 1) := by decide +kernel
theorem dX2_moveHead_36 : decode cX2_moveHead 36 = .ok (.aload_n 0, 1) := by decide +kernel
theorem dX2_moveHead_37 : decode cX2_moveHead 37 = .ok (.getfield 10, 3) := by decide +kernel
theorem dX2_moveHead_40 : decode cX2_moveHead 40 = .ok (.iload_n 1, 1) := by decide +kernel
theorem dX2_moveHead_41 : decode cX2_moveHead 41 = .ok (.putfield 96, 3) := by decide +kernel
theorem dX2_moveHead_44 : decode cX2_moveHead 44 = .ok (.iload_n 2, 1) := by decide +kernel
theorem dX2_moveHead_45 : decode cX2_moveHead 45 = .ok (.ireturn, 1) := by decide +kernel
theorem dX2_recordings_0 : decode cX2_recordings 0 = .ok (.aload_n 0, 1) := by decide +kernel
theorem dX2_recordings_1 : decode cX2_recordings 1 = .ok (.getfield 10, 3) := by decide +kernel
theorem dX2_recordings_4 : decode cX2_recordings 4 = .ok (.getfield 99, 3) := by decide +kernel
theorem dX2_recordings_7 : decode cX2_recordings 7 = .ok (.ireturn, 1) := by decide +kernel
theorem dX2_running_0 : decode cX2_running 0 = .ok (.aload_n 0, 1) := by decide +kernel
theorem dX2_running_1 : decode cX2_running 1 = .ok (.getfield 10, 3) := by decide +kernel
theorem dX2_running_4 : decode cX2_running 4 = .ok (.invokevirtual 102, 3) := by decide +kernel
theorem dX2_running_7 : decode cX2_running 7 = .ok (.ireturn, 1) := by decide +kernel
theorem dX2_head_0 : decode cX2_head 0 = .ok (.aload_n 0, 1) := by decide +kernel
theorem dX2_head_1 : decode cX2_head 1 = .ok (.getfield 10, 3) := by decide +kernel
theorem dX2_head_4 : decode cX2_head 4 = .ok (.getfield 96, 3) := by decide +kernel
theorem dX2_head_7 : decode cX2_head 7 = .ok (.ireturn, 1) := by decide +kernel
theorem dX2_length_0 : decode cX2_length 0 = .ok (.aload_n 0, 1) := by decide +kernel
theorem dX2_length_1 : decode cX2_length 1 = .ok (.iload_n 1, 1) := by decide +kernel
theorem dX2_length_2 : decode cX2_length 2 = .ok (.invokevirtual 75, 3) := by decide +kernel
theorem dX2_length_5 : decode cX2_length 5 = .ok (.aload_n 0, 1) := by decide +kernel
theorem dX2_length_6 : decode cX2_length 6 = .ok (.getfield 10, 3) := by decide +kernel
theorem dX2_length_9 : decode cX2_length 9 = .ok (.iload_n 1, 1) := by decide +kernel
theorem dX2_length_10 : decode cX2_length 10 = .ok (.invokevirtual 105, 3) := by decide +kernel
theorem dX2_length_13 : decode cX2_length 13 = .ok (.ireturn, 1) := by decide +kernel
theorem dX2_sound_0 : decode cX2_sound 0 = .ok (.aload_n 0, 1) := by decide +kernel
theorem dX2_sound_1 : decode cX2_sound 1 = .ok (.iload_n 1, 1) := by decide +kernel
theorem dX2_sound_2 : decode cX2_sound 2 = .ok (.iload_n 2, 1) := by decide +kernel
theorem dX2_sound_3 : decode cX2_sound 3 = .ok (.invokevirtual 108, 3) := by decide +kernel
theorem dX2_sound_6 : decode cX2_sound 6 = .ok (.aload_n 0, 1) := by decide +kernel
theorem dX2_sound_7 : decode cX2_sound 7 = .ok (.getfield 10, 3) := by decide +kernel
theorem dX2_sound_10 : decode cX2_sound 10 = .ok (.getfield 112, 3) := by decide +kernel
theorem dX2_sound_13 : decode cX2_sound 13 = .ok (.aload_n 0, 1) := by decide +kernel
theorem dX2_sound_14 : decode cX2_sound 14 = .ok (.getfield 10, 3) := by decide +kernel
theorem dX2_sound_17 : decode cX2_sound 17 = .ok (.iload_n 1, 1) := by decide +kernel
theorem dX2_sound_18 : decode cX2_sound 18 = .ok (.iload_n 2, 1) := by decide +kernel
theorem dX2_sound_19 : decode cX2_sound 19 = .ok (.invokevirtual 116, 3) := by decide +kernel
theorem dX2_sound_22 : decode cX2_sound 22 = .ok (.invokestatic 119, 3) := by decide +kernel
theorem dX2_sound_25 : decode cX2_sound 25 = .ok (.ireturn, 1) := by decide +kernel
theorem dX2_cellOf_0 : decode cX2_cellOf 0 = .ok (.aload_n 0, 1) := by decide +kernel
theorem dX2_cellOf_1 : decode cX2_cellOf 1 = .ok (.iload_n 1, 1) := by decide +kernel
theorem dX2_cellOf_2 : decode cX2_cellOf 2 = .ok (.iload_n 2, 1) := by decide +kernel
theorem dX2_cellOf_3 : decode cX2_cellOf 3 = .ok (.invokevirtual 108, 3) := by decide +kernel
theorem dX2_cellOf_6 : decode cX2_cellOf 6 = .ok (.aload_n 0, 1) := by decide +kernel
theorem dX2_cellOf_7 : decode cX2_cellOf 7 = .ok (.getfield 10, 3) := by decide +kernel
theorem dX2_cellOf_10 : decode cX2_cellOf 10 = .ok (.iload_n 1, 1) := by decide +kernel
theorem dX2_cellOf_11 : decode cX2_cellOf 11 = .ok (.iload_n 2, 1) := by decide +kernel
theorem dX2_cellOf_12 : decode cX2_cellOf 12 = .ok (.invokevirtual 116, 3) := by decide +kernel
theorem dX2_cellOf_15 : decode cX2_cellOf 15 = .ok (.ireturn, 1) := by decide +kernel
theorem dX2_hasFlag_0 : decode cX2_hasFlag 0 = .ok (.aload_n 0, 1) := by decide +kernel
theorem dX2_hasFlag_1 : decode cX2_hasFlag 1 = .ok (.iload_n 1, 1) := by decide +kernel
theorem dX2_hasFlag_2 : decode cX2_hasFlag 2 = .ok (.invokevirtual 75, 3) := by decide +kernel
theorem dX2_hasFlag_5 : decode cX2_hasFlag 5 = .ok (.aload_n 0, 1) := by decide +kernel
theorem dX2_hasFlag_6 : decode cX2_hasFlag 6 = .ok (.getfield 10, 3) := by decide +kernel
theorem dX2_hasFlag_9 : decode cX2_hasFlag 9 = .ok (.iload_n 1, 1) := by decide +kernel
theorem dX2_hasFlag_10 : decode cX2_hasFlag 10 = .ok (.invokevirtual 78, 3) := by decide +kernel
theorem dX2_hasFlag_13 : decode cX2_hasFlag 13 = .ok (.ireturn, 1) := by decide +kernel
theorem dX2_lost_0 : decode cX2_lost 0 = .ok (.aload_n 0, 1) := by decide +kernel
theorem dX2_lost_1 : decode cX2_lost 1 = .ok (.iload_n 1, 1) := by decide +kernel
theorem dX2_lost_2 : decode cX2_lost 2 = .ok (.invokevirtual 75, 3) := by decide +kernel
theorem dX2_lost_5 : decode cX2_lost 5 = .ok (.aload_n 0, 1) := by decide +kernel
theorem dX2_lost_6 : decode cX2_lost 6 = .ok (.getfield 10, 3) := by decide +kernel
theorem dX2_lost_9 : decode cX2_lost 9 = .ok (.getfield 123, 3) := by decide +kernel
theorem dX2_lost_12 : decode cX2_lost 12 = .ok (.iload_n 1, 1) := by decide +kernel
theorem dX2_lost_13 : decode cX2_lost 13 = .ok (.invokestatic 119, 3) := by decide +kernel
theorem dX2_lost_16 : decode cX2_lost 16 = .ok (.ireturn, 1) := by decide +kernel
theorem dX2_owner_0 : decode cX2_owner 0 = .ok (.iload_n 1, 1) := by decide +kernel
theorem dX2_owner_1 : decode cX2_owner 1 = .ok (.invokestatic 91, 3) := by decide +kernel
theorem dX2_owner_4 : decode cX2_owner 4 = .ok (.aload_n 0, 1) := by decide +kernel
theorem dX2_owner_5 : decode cX2_owner 5 = .ok (.getfield 10, 3) := by decide +kernel
theorem dX2_owner_8 : decode cX2_owner 8 = .ok (.getfield 126, 3) := by decide +kernel
theorem dX2_owner_11 : decode cX2_owner 11 = .ok (.iload_n 1, 1) := by decide +kernel
theorem dX2_owner_12 : decode cX2_owner 12 = .ok (.invokestatic 119, 3) := by decide +kernel
theorem dX2_owner_15 : decode cX2_owner 15 = .ok (.ireturn, 1) := by decide +kernel
theorem dX2_free_0 : decode cX2_free 0 = .ok (.bipush 32, 2) := by decide +kernel
theorem dX2_free_2 : decode cX2_free 2 = .ok (.aload_n 0, 1) := by decide +kernel
theorem dX2_free_3 : decode cX2_free 3 = .ok (.getfield 10, 3) := by decide +kernel
theorem dX2_free_6 : decode cX2_free 6 = .ok (.getfield 129, 3) := by decide +kernel
theorem dX2_free_9 : decode cX2_free 9 = .ok (.isub, 1) := by decide +kernel
theorem dX2_free_10 : decode cX2_free 10 = .ok (.ireturn, 1) := by decide +kernel
theorem dX2_spoken_0 : decode cX2_spoken 0 = .ok (.aload_n 0, 1) := by decide +kernel
theorem dX2_spoken_1 : decode cX2_spoken 1 = .ok (.getfield 10, 3) := by decide +kernel
theorem dX2_spoken_4 : decode cX2_spoken 4 = .ok (.getfield 132, 3) := by decide +kernel
theorem dX2_spoken_7 : decode cX2_spoken 7 = .ok (.ireturn, 1) := by decide +kernel
theorem dX2_gone_0 : decode cX2_gone 0 = .ok (.aload_n 0, 1) := by decide +kernel
theorem dX2_gone_1 : decode cX2_gone 1 = .ok (.getfield 10, 3) := by decide +kernel
theorem dX2_gone_4 : decode cX2_gone 4 = .ok (.getfield 135, 3) := by decide +kernel
theorem dX2_gone_7 : decode cX2_gone 7 = .ok (.ireturn, 1) := by decide +kernel
theorem dX2_usedShare_0 : decode cX2_usedShare 0 = .ok (.aload_n 0, 1) := by decide +kernel
theorem dX2_usedShare_1 : decode cX2_usedShare 1 = .ok (.getfield 10, 3) := by decide +kernel
theorem dX2_usedShare_4 : decode cX2_usedShare 4 = .ok (.getfield 129, 3) := by decide +kernel
theorem dX2_usedShare_7 : decode cX2_usedShare 7 = .ok (.i2d, 1) := by decide +kernel
theorem dX2_usedShare_8 : decode cX2_usedShare 8 = .ok (.ldc2_w 138, 3) := by decide +kernel
theorem dX2_usedShare_11 : decode cX2_usedShare 11 = .ok (.ddiv, 1) := by decide +kernel
theorem dX2_usedShare_12 : decode cX2_usedShare 12 = .ok (.dreturn, 1) := by decide +kernel
theorem dX2_go_0 : decode cX2_go 0 = .ok (.aload_n 0, 1) := by decide +kernel
theorem dX2_go_1 : decode cX2_go 1 = .ok (.iload_n 1, 1) := by decide +kernel
theorem dX2_go_2 : decode cX2_go 2 = .ok (.invokevirtual 75, 3) := by decide +kernel
theorem dX2_go_5 : decode cX2_go 5 = .ok (.aload_n 0, 1) := by decide +kernel
theorem dX2_go_6 : decode cX2_go 6 = .ok (.invokevirtual 45, 3) := by decide +kernel
theorem dX2_go_9 : decode cX2_go 9 = .ok (.aload_n 0, 1) := by decide +kernel
theorem dX2_go_10 : decode cX2_go 10 = .ok (.getfield 10, 3) := by decide +kernel
theorem dX2_go_13 : decode cX2_go 13 = .ok (.iload_n 1, 1) := by decide +kernel
theorem dX2_go_14 : decode cX2_go 14 = .ok (.invokevirtual 140, 3) := by decide +kernel
theorem dX2_go_17 : decode cX2_go 17 = .ok (.aload_n 0, 1) := by decide +kernel
theorem dX2_go_18 : decode cX2_go 18 = .ok (.getfield 10, 3) := by decide +kernel
theorem dX2_go_21 : decode cX2_go 21 = .ok (.iload_n 1, 1) := by decide +kernel
theorem dX2_go_22 : decode cX2_go 22 = .ok (.invokevirtual 105, 3) := by decide +kernel
theorem dX2_go_25 : decode cX2_go 25 = .ok (.ireturn, 1) := by decide +kernel
theorem dX2_play_0 : decode cX2_play 0 = .ok (.aload_n 0, 1) := by decide +kernel
theorem dX2_play_1 : decode cX2_play 1 = .ok (.invokevirtual 143, 3) := by decide +kernel
theorem dX2_play_4 : decode cX2_play 4 = .ok (.aload_n 0, 1) := by decide +kernel
theorem dX2_play_5 : decode cX2_play 5 = .ok (.invokevirtual 45, 3) := by decide +kernel
theorem dX2_play_8 : decode cX2_play 8 = .ok (.aload_n 0, 1) := by decide +kernel
theorem dX2_play_9 : decode cX2_play 9 = .ok (.getfield 10, 3) := by decide +kernel
theorem dX2_play_12 : decode cX2_play 12 = .ok (.invokevirtual 146, 3) := by decide +kernel
theorem dX2_play_15 : decode cX2_play 15 = .ok (.ireturn, 1) := by decide +kernel
theorem dX2_back_0 : decode cX2_back 0 = .ok (.iload_n 1, 1) := by decide +kernel
theorem dX2_back_1 : decode cX2_back 1 = .ok (.iconst 1, 1) := by decide +kernel
theorem dX2_back_2 : decode cX2_back 2 = .ok (.if_icmp .lt 9, 3) := by decide +kernel
theorem dX2_back_5 : decode cX2_back 5 = .ok (.iload_n 1, 1) := by decide +kernel
theorem dX2_back_6 : decode cX2_back 6 = .ok (.bipush 9, 2) := by decide +kernel
theorem dX2_back_8 : decode cX2_back 8 = .ok (.if_icmp .le 13, 3) := by decide +kernel
theorem dX2_back_11 : decode cX2_back 11 = .ok (.new 149, 3) := by decide +kernel
theorem dX2_back_14 : decode cX2_back 14 = .ok (.dup, 1) := by decide +kernel
theorem dX2_back_15 : decode cX2_back 15 = .ok (.ldc 151, 2) := by decide +kernel
theorem dX2_back_17 : decode cX2_back 17 = .ok (.invokespecial 153, 3) := by decide +kernel
theorem dX2_back_20 : decode cX2_back 20 = .ok (.athrow, 1) := by decide +kernel
theorem dX2_back_21 : decode cX2_back 21 = .ok (.aload_n 0, 1) := by decide +kernel
theorem dX2_back_22 : decode cX2_back 22 = .ok (.invokevirtual 143, 3) := by decide +kernel
theorem dX2_back_25 : decode cX2_back 25 = .ok (.aload_n 0, 1) := by decide +kernel
theorem dX2_back_26 : decode cX2_back 26 = .ok (.invokevirtual 45, 3) := by decide +kernel
theorem dX2_back_29 : decode cX2_back 29 = .ok (.aload_n 0, 1) := by decide +kernel
theorem dX2_back_30 : decode cX2_back 30 = .ok (.getfield 10, 3) := by decide +kernel
theorem dX2_back_33 : decode cX2_back 33 = .ok (.iload_n 1, 1) := by decide +kernel
theorem dX2_back_34 : decode cX2_back 34 = .ok (.invokevirtual 154, 3) := by decide +kernel
theorem dX2_back_37 : decode cX2_back 37 = .ok (.ireturn, 1) := by decide +kernel
theorem dX2_playing_0 : decode cX2_playing 0 = .ok (.aload_n 0, 1) := by decide +kernel
theorem dX2_playing_1 : decode cX2_playing 1 = .ok (.getfield 10, 3) := by decide +kernel
theorem dX2_playing_4 : decode cX2_playing 4 = .ok (.getfield 157, 3) := by decide +kernel
theorem dX2_playing_7 : decode cX2_playing 7 = .ok (.ireturn, 1) := by decide +kernel
theorem dX2_place_0 : decode cX2_place 0 = .ok (.aload_n 0, 1) := by decide +kernel
theorem dX2_place_1 : decode cX2_place 1 = .ok (.getfield 10, 3) := by decide +kernel
theorem dX2_place_4 : decode cX2_place 4 = .ok (.getfield 160, 3) := by decide +kernel
theorem dX2_place_7 : decode cX2_place 7 = .ok (.ireturn, 1) := by decide +kernel
theorem dX2_correct_0 : decode cX2_correct 0 = .ok (.aload_n 0, 1) := by decide +kernel
theorem dX2_correct_1 : decode cX2_correct 1 = .ok (.iload_n 1, 1) := by decide +kernel
theorem dX2_correct_2 : decode cX2_correct 2 = .ok (.iload_n 2, 1) := by decide +kernel
theorem dX2_correct_3 : decode cX2_correct 3 = .ok (.invokevirtual 108, 3) := by decide +kernel
theorem dX2_correct_6 : decode cX2_correct 6 = .ok (.aload_n 0, 1) := by decide +kernel
theorem dX2_correct_7 : decode cX2_correct 7 = .ok (.getfield 10, 3) := by decide +kernel
theorem dX2_correct_10 : decode cX2_correct 10 = .ok (.iload_n 1, 1) := by decide +kernel
theorem dX2_correct_11 : decode cX2_correct 11 = .ok (.iload_n 2, 1) := by decide +kernel
theorem dX2_correct_12 : decode cX2_correct 12 = .ok (.invokevirtual 116, 3) := by decide +kernel
theorem dX2_correct_15 : decode cX2_correct 15 = .ok (.istore 4, 2) := by decide +kernel
theorem dX2_correct_17 : decode cX2_correct 17 = .ok (.iload 4, 2) := by decide +kernel
theorem dX2_correct_19 : decode cX2_correct 19 = .ok (.invokestatic 91, 3) := by decide +kernel
theorem dX2_correct_22 : decode cX2_correct 22 = .ok (.iload_n 3, 1) := by decide +kernel
theorem dX2_correct_23 : decode cX2_correct 23 = .ok (.invokestatic 61, 3) := by decide +kernel
theorem dX2_correct_26 : decode cX2_correct 26 = .ok (.aload_n 0, 1) := by decide +kernel
theorem dX2_correct_27 : decode cX2_correct 27 = .ok (.getfield 10, 3) := by decide +kernel
theorem dX2_correct_30 : decode cX2_correct 30 = .ok (.iload_n 1, 1) := by decide +kernel
theorem dX2_correct_31 : decode cX2_correct 31 = .ok (.invokevirtual 78, 3) := by decide +kernel
theorem dX2_correct_34 : decode cX2_correct 34 = .ok (.ifCond .eq 13, 3) := by decide +kernel
theorem dX2_correct_37 : decode cX2_correct 37 = .ok (.new 38, 3) := by decide +kernel
theorem dX2_correct_40 : decode cX2_correct 40 = .ok (.dup, 1) := by decide +kernel
theorem dX2_correct_41 : decode cX2_correct 41 = .ok (.ldc 85, 2) := by decide +kernel
theorem dX2_correct_43 : decode cX2_correct 43 = .ok (.invokespecial 42, 3) := by decide +kernel
theorem dX2_correct_46 : decode cX2_correct 46 = .ok (.athrow, 1) := by decide +kernel
theorem dX2_correct_47 : decode cX2_correct 47 = .ok (.aload_n 0, 1) := by decide +kernel
theorem dX2_correct_48 : decode cX2_correct 48 = .ok (.invokevirtual 45, 3) := by decide +kernel
theorem dX2_correct_51 : decode cX2_correct 51 = .ok (.aload_n 0, 1) := by decide +kernel
theorem dX2_correct_52 : decode cX2_correct 52 = .ok (.getfield 10, 3) := by decide +kernel
theorem dX2_correct_55 : decode cX2_correct 55 = .ok (.getfield 112, 3) := by decide +kernel
theorem dX2_correct_58 : decode cX2_correct 58 = .ok (.iload 4, 2) := by decide +kernel
theorem dX2_correct_60 : decode cX2_correct 60 = .ok (.invokestatic 119, 3) := by decide +kernel
theorem dX2_correct_63 : decode cX2_correct 63 = .ok (.istore 5, 2) := by decide +kernel
theorem dX2_correct_65 : decode cX2_correct 65 = .ok (.aload_n 0, 1) := by decide +kernel
theorem dX2_correct_66 : decode cX2_correct 66 = .ok (.getfield 10, 3) := by decide +kernel
theorem dX2_correct_69 : decode cX2_correct 69 = .ok (.getfield 112, 3) := by decide +kernel
theorem dX2_correct_72 : decode cX2_correct 72 = .ok (.iload 4, 2) := by decide +kernel
theorem dX2_correct_74 : decode cX2_correct 74 = .ok (.iload_n 3, 1) := by decide +kernel
theorem dX2_correct_75 : decode cX2_correct 75 = .ok (.invokestatic 163, 3) := by decide +kernel
theorem dX2_correct_78 : decode cX2_correct 78 = .ok (.iload 5, 2) := by decide +kernel
theorem dX2_correct_80 : decode cX2_correct 80 = .ok (.ireturn, 1) := by decide +kernel
theorem dX2_carbon_0 : decode cX2_carbon 0 = .ok (.aload_n 0, 1) := by decide +kernel
theorem dX2_carbon_1 : decode cX2_carbon 1 = .ok (.iload_n 1, 1) := by decide +kernel
theorem dX2_carbon_2 : decode cX2_carbon 2 = .ok (.iload_n 2, 1) := by decide +kernel
theorem dX2_carbon_3 : decode cX2_carbon 3 = .ok (.invokevirtual 108, 3) := by decide +kernel
theorem dX2_carbon_6 : decode cX2_carbon 6 = .ok (.aload_n 0, 1) := by decide +kernel
theorem dX2_carbon_7 : decode cX2_carbon 7 = .ok (.getfield 10, 3) := by decide +kernel
theorem dX2_carbon_10 : decode cX2_carbon 10 = .ok (.getfield 167, 3) := by decide +kernel
theorem dX2_carbon_13 : decode cX2_carbon 13 = .ok (.aload_n 0, 1) := by decide +kernel
theorem dX2_carbon_14 : decode cX2_carbon 14 = .ok (.getfield 10, 3) := by decide +kernel
theorem dX2_carbon_17 : decode cX2_carbon 17 = .ok (.iload_n 1, 1) := by decide +kernel
theorem dX2_carbon_18 : decode cX2_carbon 18 = .ok (.iload_n 2, 1) := by decide +kernel
theorem dX2_carbon_19 : decode cX2_carbon 19 = .ok (.invokevirtual 116, 3) := by decide +kernel
theorem dX2_carbon_22 : decode cX2_carbon 22 = .ok (.invokestatic 119, 3) := by decide +kernel
theorem dX2_carbon_25 : decode cX2_carbon 25 = .ok (.ireturn, 1) := by decide +kernel
theorem dX2_corrected_0 : decode cX2_corrected 0 = .ok (.aload_n 0, 1) := by decide +kernel
theorem dX2_corrected_1 : decode cX2_corrected 1 = .ok (.getfield 10, 3) := by decide +kernel
theorem dX2_corrected_4 : decode cX2_corrected 4 = .ok (.invokevirtual 170, 3) := by decide +kernel
theorem dX2_corrected_7 : decode cX2_corrected 7 = .ok (.ireturn, 1) := by decide +kernel
theorem dX2_room_0 : decode cX2_room 0 = .ok (.aload_n 0, 1) := by decide +kernel
theorem dX2_room_1 : decode cX2_room 1 = .ok (.getfield 10, 3) := by decide +kernel
theorem dX2_room_4 : decode cX2_room 4 = .ok (.invokevirtual 173, 3) := by decide +kernel
theorem dX2_room_7 : decode cX2_room 7 = .ok (.ireturn, 1) := by decide +kernel
theorem dX2_nextLoser_0 : decode cX2_nextLoser 0 = .ok (.aload_n 0, 1) := by decide +kernel
theorem dX2_nextLoser_1 : decode cX2_nextLoser 1 = .ok (.getfield 10, 3) := by decide +kernel
theorem dX2_nextLoser_4 : decode cX2_nextLoser 4 = .ok (.invokevirtual 176, 3) := by decide +kernel
theorem dX2_nextLoser_7 : decode cX2_nextLoser 7 = .ok (.ireturn, 1) := by decide +kernel
theorem dX2_lossOf_0 : decode cX2_lossOf 0 = .ok (.aload_n 0, 1) := by decide +kernel
theorem dX2_lossOf_1 : decode cX2_lossOf 1 = .ok (.iload_n 1, 1) := by decide +kernel
theorem dX2_lossOf_2 : decode cX2_lossOf 2 = .ok (.invokevirtual 75, 3) := by decide +kernel
theorem dX2_lossOf_5 : decode cX2_lossOf 5 = .ok (.iload_n 2, 1) := by decide +kernel
theorem dX2_lossOf_6 : decode cX2_lossOf 6 = .ok (.invokestatic 179, 3) := by decide +kernel
theorem dX2_lossOf_9 : decode cX2_lossOf 9 = .ok (.aload_n 0, 1) := by decide +kernel
theorem dX2_lossOf_10 : decode cX2_lossOf 10 = .ok (.getfield 10, 3) := by decide +kernel
theorem dX2_lossOf_13 : decode cX2_lossOf 13 = .ok (.iload_n 1, 1) := by decide +kernel
theorem dX2_lossOf_14 : decode cX2_lossOf 14 = .ok (.iload_n 2, 1) := by decide +kernel
theorem dX2_lossOf_15 : decode cX2_lossOf 15 = .ok (.invokevirtual 182, 3) := by decide +kernel
theorem dX2_lossOf_18 : decode cX2_lossOf 18 = .ok (.ireturn, 1) := by decide +kernel
theorem dX2_goneAfter_0 : decode cX2_goneAfter 0 = .ok (.iload_n 1, 1) := by decide +kernel
theorem dX2_goneAfter_1 : decode cX2_goneAfter 1 = .ok (.invokestatic 179, 3) := by decide +kernel
theorem dX2_goneAfter_4 : decode cX2_goneAfter 4 = .ok (.iconst 0, 1) := by decide +kernel
theorem dX2_goneAfter_5 : decode cX2_goneAfter 5 = .ok (.istore_n 2, 1) := by decide +kernel
theorem dX2_goneAfter_6 : decode cX2_goneAfter 6 = .ok (.iconst 0, 1) := by decide +kernel
theorem dX2_goneAfter_7 : decode cX2_goneAfter 7 = .ok (.istore_n 3, 1) := by decide +kernel
theorem dX2_goneAfter_8 : decode cX2_goneAfter 8 = .ok (.iload_n 3, 1) := by decide +kernel
theorem dX2_goneAfter_9 : decode cX2_goneAfter 9 = .ok (.aload_n 0, 1) := by decide +kernel
theorem dX2_goneAfter_10 : decode cX2_goneAfter 10 = .ok (.getfield 10, 3) := by decide +kernel
theorem dX2_goneAfter_13 : decode cX2_goneAfter 13 = .ok (.getfield 99, 3) := by decide +kernel
theorem dX2_goneAfter_16 : decode cX2_goneAfter 16 = .ok (.if_icmp .ge 41, 3) := by decide +kernel
theorem dX2_goneAfter_19 : decode cX2_goneAfter 19 = .ok (.aload_n 0, 1) := by decide +kernel
theorem dX2_goneAfter_20 : decode cX2_goneAfter 20 = .ok (.getfield 10, 3) := by decide +kernel
theorem dX2_goneAfter_23 : decode cX2_goneAfter 23 = .ok (.iload_n 3, 1) := by decide +kernel
theorem dX2_goneAfter_24 : decode cX2_goneAfter 24 = .ok (.iload_n 1, 1) := by decide +kernel
theorem dX2_goneAfter_25 : decode cX2_goneAfter 25 = .ok (.invokevirtual 182, 3) := by decide +kernel
theorem dX2_goneAfter_28 : decode cX2_goneAfter 28 = .ok (.istore 4, 2) := by decide +kernel
theorem dX2_goneAfter_30 : decode cX2_goneAfter 30 = .ok (.iload 4, 2) := by decide +kernel
theorem dX2_goneAfter_32 : decode cX2_goneAfter 32 = .ok (.ifCond .le 19, 3) := by decide +kernel
theorem dX2_goneAfter_35 : decode cX2_goneAfter 35 = .ok (.iload 4, 2) := by decide +kernel
theorem dX2_goneAfter_37 : decode cX2_goneAfter 37 = .ok (.aload_n 0, 1) := by decide +kernel
theorem dX2_goneAfter_38 : decode cX2_goneAfter 38 = .ok (.getfield 10, 3) := by decide +kernel
theorem dX2_goneAfter_41 : decode cX2_goneAfter 41 = .ok (.iload_n 3, 1) := by decide +kernel
theorem dX2_goneAfter_42 : decode cX2_goneAfter 42 = .ok (.invokevirtual 105, 3) := by decide +kernel
theorem dX2_goneAfter_45 : decode cX2_goneAfter 45 = .ok (.if_icmp .ne 6, 3) := by decide +kernel
theorem dX2_goneAfter_48 : decode cX2_goneAfter 48 = .ok (.iinc 2 1, 3) := by decide +kernel
theorem dX2_goneAfter_51 : decode cX2_goneAfter 51 = .ok (.iinc 3 1, 3) := by decide +kernel
theorem dX2_goneAfter_54 : decode cX2_goneAfter 54 = .ok (.goto (-46), 3) := by decide +kernel
theorem dX2_goneAfter_57 : decode cX2_goneAfter 57 = .ok (.iload_n 2, 1) := by decide +kernel
theorem dX2_goneAfter_58 : decode cX2_goneAfter 58 = .ok (.ireturn, 1) := by decide +kernel
theorem dX2_undo_0 : decode cX2_undo 0 = .ok (.aload_n 0, 1) := by decide +kernel
theorem dX2_undo_1 : decode cX2_undo 1 = .ok (.getfield 24, 3) := by decide +kernel
theorem dX2_undo_4 : decode cX2_undo 4 = .ok (.ifCond .ne 13, 3) := by decide +kernel
theorem dX2_undo_7 : decode cX2_undo 7 = .ok (.new 38, 3) := by decide +kernel
theorem dX2_undo_10 : decode cX2_undo 10 = .ok (.dup, 1) := by decide +kernel
theorem dX2_undo_11 : decode cX2_undo 11 = .ok (.ldc 206, 2) := by decide +kernel
theorem dX2_undo_13 : decode cX2_undo 13 = .ok (.invokespecial 42, 3) := by decide +kernel
theorem dX2_undo_16 : decode cX2_undo 16 = .ok (.athrow, 1) := by decide +kernel
theorem dX2_undo_17 : decode cX2_undo 17 = .ok (.aload_n 0, 1) := by decide +kernel
theorem dX2_undo_18 : decode cX2_undo 18 = .ok (.aload_n 0, 1) := by decide +kernel
theorem dX2_undo_19 : decode cX2_undo 19 = .ok (.getfield 20, 3) := by decide +kernel
theorem dX2_undo_22 : decode cX2_undo 22 = .ok (.ifCond .ne 7, 3) := by decide +kernel
theorem dX2_undo_25 : decode cX2_undo 25 = .ok (.iconst 5, 1) := by decide +kernel
theorem dX2_undo_26 : decode cX2_undo 26 = .ok (.goto 9, 3) := by decide +kernel
theorem dX2_undo_29 : decode cX2_undo 29 = .ok (.aload_n 0, 1) := by decide +kernel
theorem dX2_undo_30 : decode cX2_undo 30 = .ok (.getfield 20, 3) := by decide +kernel
theorem dX2_undo_33 : decode cX2_undo 33 = .ok (.iconst 1, 1) := by decide +kernel
theorem dX2_undo_34 : decode cX2_undo 34 = .ok (.isub, 1) := by decide +kernel
theorem dX2_undo_35 : decode cX2_undo 35 = .ok (.putfield 20, 3) := by decide +kernel
theorem dX2_undo_38 : decode cX2_undo 38 = .ok (.aload_n 0, 1) := by decide +kernel
theorem dX2_undo_39 : decode cX2_undo 39 = .ok (.dup, 1) := by decide +kernel
theorem dX2_undo_40 : decode cX2_undo 40 = .ok (.getfield 24, 3) := by decide +kernel
theorem dX2_undo_43 : decode cX2_undo 43 = .ok (.iconst 1, 1) := by decide +kernel
theorem dX2_undo_44 : decode cX2_undo 44 = .ok (.isub, 1) := by decide +kernel
theorem dX2_undo_45 : decode cX2_undo 45 = .ok (.putfield 24, 3) := by decide +kernel
theorem dX2_undo_48 : decode cX2_undo 48 = .ok (.aload_n 0, 1) := by decide +kernel
theorem dX2_undo_49 : decode cX2_undo 49 = .ok (.aload_n 0, 1) := by decide +kernel
theorem dX2_undo_50 : decode cX2_undo 50 = .ok (.getfield 20, 3) := by decide +kernel
theorem dX2_undo_53 : decode cX2_undo 53 = .ok (.invokevirtual 208, 3) := by decide +kernel
theorem dX2_undo_56 : decode cX2_undo 56 = .ok (.astore_n 1, 1) := by decide +kernel
theorem dX2_undo_57 : decode cX2_undo 57 = .ok (.aload_n 1, 1) := by decide +kernel
theorem dX2_undo_58 : decode cX2_undo 58 = .ok (.ifnull 11, 3) := by decide +kernel
theorem dX2_undo_61 : decode cX2_undo 61 = .ok (.aload_n 0, 1) := by decide +kernel
theorem dX2_undo_62 : decode cX2_undo 62 = .ok (.getfield 10, 3) := by decide +kernel
theorem dX2_undo_65 : decode cX2_undo 65 = .ok (.aload_n 1, 1) := by decide +kernel
theorem dX2_undo_66 : decode cX2_undo 66 = .ok (.invokevirtual 212, 3) := by decide +kernel
theorem dX2_undo_69 : decode cX2_undo 69 = .ok (.aload_n 0, 1) := by decide +kernel
theorem dX2_undo_70 : decode cX2_undo 70 = .ok (.getfield 24, 3) := by decide +kernel
theorem dX2_undo_73 : decode cX2_undo 73 = .ok (.ireturn, 1) := by decide +kernel
theorem dX2_savedStates_0 : decode cX2_savedStates 0 = .ok (.aload_n 0, 1) := by decide +kernel
theorem dX2_savedStates_1 : decode cX2_savedStates 1 = .ok (.getfield 24, 3) := by decide +kernel
theorem dX2_savedStates_4 : decode cX2_savedStates 4 = .ok (.ireturn, 1) := by decide +kernel
theorem dX2_digest_0 : decode cX2_digest 0 = .ok (.ldc2_w 216, 3) := by decide +kernel
theorem dX2_digest_3 : decode cX2_digest 3 = .ok (.lstore_n 1, 1) := by decide +kernel
theorem dX2_digest_4 : decode cX2_digest 4 = .ok (.lload_n 1, 1) := by decide +kernel
theorem dX2_digest_5 : decode cX2_digest 5 = .ok (.aload_n 0, 1) := by decide +kernel
theorem dX2_digest_6 : decode cX2_digest 6 = .ok (.invokevirtual 218, 3) := by decide +kernel
theorem dX2_digest_9 : decode cX2_digest 9 = .ok (.i2l, 1) := by decide +kernel
theorem dX2_digest_10 : decode cX2_digest 10 = .ok (.invokestatic 221, 3) := by decide +kernel
theorem dX2_digest_13 : decode cX2_digest 13 = .ok (.lstore_n 1, 1) := by decide +kernel
theorem dX2_digest_14 : decode cX2_digest 14 = .ok (.lload_n 1, 1) := by decide +kernel
theorem dX2_digest_15 : decode cX2_digest 15 = .ok (.aload_n 0, 1) := by decide +kernel
theorem dX2_digest_16 : decode cX2_digest 16 = .ok (.invokevirtual 225, 3) := by decide +kernel
theorem dX2_digest_19 : decode cX2_digest 19 = .ok (.i2l, 1) := by decide +kernel
theorem dX2_digest_20 : decode cX2_digest 20 = .ok (.invokestatic 221, 3) := by decide +kernel
theorem dX2_digest_23 : decode cX2_digest 23 = .ok (.lstore_n 1, 1) := by decide +kernel
theorem dX2_digest_24 : decode cX2_digest 24 = .ok (.lload_n 1, 1) := by decide +kernel
theorem dX2_digest_25 : decode cX2_digest 25 = .ok (.aload_n 0, 1) := by decide +kernel
theorem dX2_digest_26 : decode cX2_digest 26 = .ok (.invokevirtual 228, 3) := by decide +kernel
theorem dX2_digest_29 : decode cX2_digest 29 = .ok (.i2l, 1) := by decide +kernel
theorem dX2_digest_30 : decode cX2_digest 30 = .ok (.invokestatic 221, 3) := by decide +kernel
theorem dX2_digest_33 : decode cX2_digest 33 = .ok (.lstore_n 1, 1) := by decide +kernel
theorem dX2_digest_34 : decode cX2_digest 34 = .ok (.lload_n 1, 1) := by decide +kernel
theorem dX2_digest_35 : decode cX2_digest 35 = .ok (.aload_n 0, 1) := by decide +kernel
theorem dX2_digest_36 : decode cX2_digest 36 = .ok (.invokevirtual 230, 3) := by decide +kernel
theorem dX2_digest_39 : decode cX2_digest 39 = .ok (.i2l, 1) := by decide +kernel
theorem dX2_digest_40 : decode cX2_digest 40 = .ok (.invokestatic 221, 3) := by decide +kernel
theorem dX2_digest_43 : decode cX2_digest 43 = .ok (.lstore_n 1, 1) := by decide +kernel
theorem dX2_digest_44 : decode cX2_digest 44 = .ok (.lload_n 1, 1) := by decide +kernel
theorem dX2_digest_45 : decode cX2_digest 45 = .ok (.aload_n 0, 1) := by decide +kernel
theorem dX2_digest_46 : decode cX2_digest 46 = .ok (.invokevirtual 233, 3) := by decide +kernel
theorem dX2_digest_49 : decode cX2_digest 49 = .ok (.i2l, 1) := by decide +kernel
theorem dX2_digest_50 : decode cX2_digest 50 = .ok (.invokestatic 221, 3) := by decide +kernel
theorem dX2_digest_53 : decode cX2_digest 53 = .ok (.lstore_n 1, 1) := by decide +kernel
theorem dX2_digest_54 : decode cX2_digest 54 = .ok (.lload_n 1, 1) := by decide +kernel
theorem dX2_digest_55 : decode cX2_digest 55 = .ok (.aload_n 0, 1) := by decide +kernel
theorem dX2_digest_56 : decode cX2_digest 56 = .ok (.invokevirtual 235, 3) := by decide +kernel
theorem dX2_digest_59 : decode cX2_digest 59 = .ok (.i2l, 1) := by decide +kernel
theorem dX2_digest_60 : decode cX2_digest 60 = .ok (.invokestatic 221, 3) := by decide +kernel
theorem dX2_digest_63 : decode cX2_digest 63 = .ok (.lstore_n 1, 1) := by decide +kernel
theorem dX2_digest_64 : decode cX2_digest 64 = .ok (.lload_n 1, 1) := by decide +kernel
theorem dX2_digest_65 : decode cX2_digest 65 = .ok (.aload_n 0, 1) := by decide +kernel
theorem dX2_digest_66 : decode cX2_digest 66 = .ok (.invokevirtual 237, 3) := by decide +kernel
theorem dX2_digest_69 : decode cX2_digest 69 = .ok (.i2l, 1) := by decide +kernel
theorem dX2_digest_70 : decode cX2_digest 70 = .ok (.invokestatic 221, 3) := by decide +kernel
theorem dX2_digest_73 : decode cX2_digest 73 = .ok (.lstore_n 1, 1) := by decide +kernel
theorem dX2_digest_74 : decode cX2_digest 74 = .ok (.lload_n 1, 1) := by decide +kernel
theorem dX2_digest_75 : decode cX2_digest 75 = .ok (.aload_n 0, 1) := by decide +kernel
theorem dX2_digest_76 : decode cX2_digest 76 = .ok (.invokevirtual 240, 3) := by decide +kernel
theorem dX2_digest_79 : decode cX2_digest 79 = .ok (.i2l, 1) := by decide +kernel
theorem dX2_digest_80 : decode cX2_digest 80 = .ok (.invokestatic 221, 3) := by decide +kernel
theorem dX2_digest_83 : decode cX2_digest 83 = .ok (.lstore_n 1, 1) := by decide +kernel
theorem dX2_digest_84 : decode cX2_digest 84 = .ok (.lload_n 1, 1) := by decide +kernel
theorem dX2_digest_85 : decode cX2_digest 85 = .ok (.aload_n 0, 1) := by decide +kernel
theorem dX2_digest_86 : decode cX2_digest 86 = .ok (.invokevirtual 242, 3) := by decide +kernel
theorem dX2_digest_89 : decode cX2_digest 89 = .ok (.i2l, 1) := by decide +kernel
theorem dX2_digest_90 : decode cX2_digest 90 = .ok (.invokestatic 221, 3) := by decide +kernel
theorem dX2_digest_93 : decode cX2_digest 93 = .ok (.lstore_n 1, 1) := by decide +kernel
theorem dX2_digest_94 : decode cX2_digest 94 = .ok (.lload_n 1, 1) := by decide +kernel
theorem dX2_digest_95 : decode cX2_digest 95 = .ok (.aload_n 0, 1) := by decide +kernel
theorem dX2_digest_96 : decode cX2_digest 96 = .ok (.invokevirtual 245, 3) := by decide +kernel
theorem dX2_digest_99 : decode cX2_digest 99 = .ok (.i2l, 1) := by decide +kernel
theorem dX2_digest_100 : decode cX2_digest 100 = .ok (.invokestatic 221, 3) := by decide +kernel
theorem dX2_digest_103 : decode cX2_digest 103 = .ok (.lstore_n 1, 1) := by decide +kernel
theorem dX2_digest_104 : decode cX2_digest 104 = .ok (.lload_n 1, 1) := by decide +kernel
theorem dX2_digest_105 : decode cX2_digest 105 = .ok (.aload_n 0, 1) := by decide +kernel
theorem dX2_digest_106 : decode cX2_digest 106 = .ok (.invokevirtual 248, 3) := by decide +kernel
theorem dX2_digest_109 : decode cX2_digest 109 = .ok (.i2l, 1) := by decide +kernel
theorem dX2_digest_110 : decode cX2_digest 110 = .ok (.invokestatic 221, 3) := by decide +kernel
theorem dX2_digest_113 : decode cX2_digest 113 = .ok (.lstore_n 1, 1) := by decide +kernel
theorem dX2_digest_114 : decode cX2_digest 114 = .ok (.iconst 0, 1) := by decide +kernel
theorem dX2_digest_115 : decode cX2_digest 115 = .ok (.istore_n 3, 1) := by decide +kernel
theorem dX2_digest_116 : decode cX2_digest 116 = .ok (.iload_n 3, 1) := by decide +kernel
theorem dX2_digest_117 : decode cX2_digest 117 = .ok (.aload_n 0, 1) := by decide +kernel
theorem dX2_digest_118 : decode cX2_digest 118 = .ok (.getfield 10, 3) := by decide +kernel
theorem dX2_digest_121 : decode cX2_digest 121 = .ok (.getfield 99, 3) := by decide +kernel
theorem dX2_digest_124 : decode cX2_digest 124 = .ok (.if_icmp .ge 16, 3) := by decide +kernel
theorem dX2_digest_127 : decode cX2_digest 127 = .ok (.aload_n 0, 1) := by decide +kernel
theorem dX2_digest_128 : decode cX2_digest 128 = .ok (.lload_n 1, 1) := by decide +kernel
theorem dX2_digest_129 : decode cX2_digest 129 = .ok (.iload_n 3, 1) := by decide +kernel
theorem dX2_digest_130 : decode cX2_digest 130 = .ok (.invokevirtual 251, 3) := by decide +kernel
theorem dX2_digest_133 : decode cX2_digest 133 = .ok (.lstore_n 1, 1) := by decide +kernel
theorem dX2_digest_134 : decode cX2_digest 134 = .ok (.iinc 3 1, 3) := by decide +kernel
theorem dX2_digest_137 : decode cX2_digest 137 = .ok (.goto (-21), 3) := by decide +kernel
theorem dX2_digest_140 : decode cX2_digest 140 = .ok (.iconst 0, 1) := by decide +kernel
theorem dX2_digest_141 : decode cX2_digest 141 = .ok (.istore_n 3, 1) := by decide +kernel
theorem dX2_digest_142 : decode cX2_digest 142 = .ok (.iload_n 3, 1) := by decide +kernel
theorem dX2_digest_143 : decode cX2_digest 143 = .ok (.bipush 32, 2) := by decide +kernel
theorem dX2_digest_145 : decode cX2_digest 145 = .ok (.if_icmp .ge 26, 3) := by decide +kernel
theorem dX2_digest_148 : decode cX2_digest 148 = .ok (.lload_n 1, 1) := by decide +kernel
theorem dX2_digest_149 : decode cX2_digest 149 = .ok (.aload_n 0, 1) := by decide +kernel
theorem dX2_digest_150 : decode cX2_digest 150 = .ok (.getfield 10, 3) := by decide +kernel
theorem dX2_digest_153 : decode cX2_digest 153 = .ok (.getfield 126, 3) := by decide +kernel
theorem dX2_digest_156 : decode cX2_digest 156 = .ok (.iload_n 3, 1) := by decide +kernel
theorem dX2_digest_157 : decode cX2_digest 157 = .ok (.invokestatic 119, 3) := by decide +kernel
theorem dX2_digest_160 : decode cX2_digest 160 = .ok (.i2l, 1) := by decide +kernel
theorem dX2_digest_161 : decode cX2_digest 161 = .ok (.invokestatic 221, 3) := by decide +kernel
theorem dX2_digest_164 : decode cX2_digest 164 = .ok (.lstore_n 1, 1) := by decide +kernel
theorem dX2_digest_165 : decode cX2_digest 165 = .ok (.iinc 3 1, 3) := by decide +kernel
theorem dX2_digest_168 : decode cX2_digest 168 = .ok (.goto (-26), 3) := by decide +kernel
theorem dX2_digest_171 : decode cX2_digest 171 = .ok (.lload_n 1, 1) := by decide +kernel
theorem dX2_digest_172 : decode cX2_digest 172 = .ok (.lreturn, 1) := by decide +kernel
theorem dX2_withRecording_0 : decode cX2_withRecording 0 = .ok (.lload_n 1, 1) := by decide +kernel
theorem dX2_withRecording_1 : decode cX2_withRecording 1 = .ok (.aload_n 0, 1) := by decide +kernel
theorem dX2_withRecording_2 : decode cX2_withRecording 2 = .ok (.getfield 10, 3) := by decide +kernel
theorem dX2_withRecording_5 : decode cX2_withRecording 5 = .ok (.iload_n 3, 1) := by decide +kernel
theorem dX2_withRecording_6 : decode cX2_withRecording 6 = .ok (.invokevirtual 105, 3) := by decide +kernel
theorem dX2_withRecording_9 : decode cX2_withRecording 9 = .ok (.i2l, 1) := by decide +kernel
theorem dX2_withRecording_10 : decode cX2_withRecording 10 = .ok (.invokestatic 221, 3) := by decide +kernel
theorem dX2_withRecording_13 : decode cX2_withRecording 13 = .ok (.lstore 4, 2) := by decide +kernel
theorem dX2_withRecording_15 : decode cX2_withRecording 15 = .ok (.lload 4, 2) := by decide +kernel
theorem dX2_withRecording_17 : decode cX2_withRecording 17 = .ok (.aload_n 0, 1) := by decide +kernel
theorem dX2_withRecording_18 : decode cX2_withRecording 18 = .ok (.getfield 10, 3) := by decide +kernel
theorem dX2_withRecording_21 : decode cX2_withRecording 21 = .ok (.iload_n 3, 1) := by decide +kernel
theorem dX2_withRecording_22 : decode cX2_withRecording 22 = .ok (.invokevirtual 78, 3) := by decide +kernel
theorem dX2_withRecording_25 : decode cX2_withRecording 25 = .ok (.ifCond .eq 7, 3) := by decide +kernel
theorem dX2_withRecording_28 : decode cX2_withRecording 28 = .ok (.lconst 1, 1) := by decide +kernel
theorem dX2_withRecording_29 : decode cX2_withRecording 29 = .ok (.goto 4, 3) := by decide +kernel
theorem dX2_withRecording_32 : decode cX2_withRecording 32 = .ok (.lconst 0, 1) := by decide +kernel
theorem dX2_withRecording_33 : decode cX2_withRecording 33 = .ok (.invokestatic 221, 3) := by decide +kernel
theorem dX2_withRecording_36 : decode cX2_withRecording 36 = .ok (.lstore 4, 2) := by decide +kernel
theorem dX2_withRecording_38 : decode cX2_withRecording 38 = .ok (.lload 4, 2) := by decide +kernel
theorem dX2_withRecording_40 : decode cX2_withRecording 40 = .ok (.aload_n 0, 1) := by decide +kernel
theorem dX2_withRecording_41 : decode cX2_withRecording 41 = .ok (.getfield 10, 3) := by decide +kernel
theorem dX2_withRecording_44 : decode cX2_withRecording 44 = .ok (.getfield 123, 3) := by decide +kernel
theorem dX2_withRecording_47 : decode cX2_withRecording 47 = .ok (.iload_n 3, 1) := by decide +kernel
theorem dX2_withRecording_48 : decode cX2_withRecording 48 = .ok (.invokestatic 119, 3) := by decide +kernel
theorem dX2_withRecording_51 : decode cX2_withRecording 51 = .ok (.i2l, 1) := by decide +kernel
theorem dX2_withRecording_52 : decode cX2_withRecording 52 = .ok (.invokestatic 221, 3) := by decide +kernel
theorem dX2_withRecording_55 : decode cX2_withRecording 55 = .ok (.lstore 4, 2) := by decide +kernel
theorem dX2_withRecording_57 : decode cX2_withRecording 57 = .ok (.iconst 0, 1) := by decide +kernel
theorem dX2_withRecording_58 : decode cX2_withRecording 58 = .ok (.istore 6, 2) := by decide +kernel
theorem dX2_withRecording_60 : decode cX2_withRecording 60 = .ok (.iload 6, 2) := by decide +kernel
theorem dX2_withRecording_62 : decode cX2_withRecording 62 = .ok (.aload_n 0, 1) := by decide +kernel
theorem dX2_withRecording_63 : decode cX2_withRecording 63 = .ok (.getfield 10, 3) := by decide +kernel
theorem dX2_withRecording_66 : decode cX2_withRecording 66 = .ok (.getfield 129, 3) := by decide +kernel
theorem dX2_withRecording_69 : decode cX2_withRecording 69 = .ok (.if_icmp .ge 89, 3) := by decide +kernel
theorem dX2_withRecording_72 : decode cX2_withRecording 72 = .ok (.aload_n 0, 1) := by decide +kernel
theorem dX2_withRecording_73 : decode cX2_withRecording 73 = .ok (.getfield 10, 3) := by decide +kernel
theorem dX2_withRecording_76 : decode cX2_withRecording 76 = .ok (.getfield 255, 3) := by decide +kernel
theorem dX2_withRecording_79 : decode cX2_withRecording 79 = .ok (.iload 6, 2) := by decide +kernel
theorem dX2_withRecording_81 : decode cX2_withRecording 81 = .ok (.invokestatic 119, 3) := by decide +kernel
theorem dX2_withRecording_84 : decode cX2_withRecording 84 = .ok (.istore 7, 2) := by decide +kernel
theorem dX2_withRecording_86 : decode cX2_withRecording 86 = .ok (.aload_n 0, 1) := by decide +kernel
theorem dX2_withRecording_87 : decode cX2_withRecording 87 = .ok (.getfield 10, 3) := by decide +kernel
theorem dX2_withRecording_90 : decode cX2_withRecording 90 = .ok (.getfield 126, 3) := by decide +kernel
theorem dX2_withRecording_93 : decode cX2_withRecording 93 = .ok (.iload 7, 2) := by decide +kernel
theorem dX2_withRecording_95 : decode cX2_withRecording 95 = .ok (.invokestatic 119, 3) := by decide +kernel
theorem dX2_withRecording_98 : decode cX2_withRecording 98 = .ok (.iload_n 3, 1) := by decide +kernel
theorem dX2_withRecording_99 : decode cX2_withRecording 99 = .ok (.if_icmp .ne 53, 3) := by decide +kernel
theorem dX2_withRecording_102 : decode cX2_withRecording 102 = .ok (.lload 4, 2) := by decide +kernel
theorem dX2_withRecording_104 : decode cX2_withRecording 104 = .ok (.iload 7, 2) := by decide +kernel
theorem dX2_withRecording_106 : decode cX2_withRecording 106 = .ok (.i2l, 1) := by decide +kernel
theorem dX2_withRecording_107 : decode cX2_withRecording 107 = .ok (.invokestatic 221, 3) := by decide +kernel
theorem dX2_withRecording_110 : decode cX2_withRecording 110 = .ok (.lstore 4, 2) := by decide +kernel
theorem dX2_withRecording_112 : decode cX2_withRecording 112 = .ok (.lload 4, 2) := by decide +kernel
theorem dX2_withRecording_114 : decode cX2_withRecording 114 = .ok (.aload_n 0, 1) := by decide +kernel
theorem dX2_withRecording_115 : decode cX2_withRecording 115 = .ok (.getfield 10, 3) := by decide +kernel
theorem dX2_withRecording_118 : decode cX2_withRecording 118 = .ok (.getfield 112, 3) := by decide +kernel
theorem dX2_withRecording_121 : decode cX2_withRecording 121 = .ok (.iload 7, 2) := by decide +kernel
theorem dX2_withRecording_123 : decode cX2_withRecording 123 = .ok (.invokestatic 119, 3) := by decide +kernel
theorem dX2_withRecording_126 : decode cX2_withRecording 126 = .ok (.i2l, 1) := by decide +kernel
theorem dX2_withRecording_127 : decode cX2_withRecording 127 = .ok (.invokestatic 221, 3) := by decide +kernel
theorem dX2_withRecording_130 : decode cX2_withRecording 130 = .ok (.lstore 4, 2) := by decide +kernel
theorem dX2_withRecording_132 : decode cX2_withRecording 132 = .ok (.lload 4, 2) := by decide +kernel
theorem dX2_withRecording_134 : decode cX2_withRecording 134 = .ok (.aload_n 0, 1) := by decide +kernel
theorem dX2_withRecording_135 : decode cX2_withRecording 135 = .ok (.getfield 10, 3) := by decide +kernel
theorem dX2_withRecording_138 : decode cX2_withRecording 138 = .ok (.getfield 167, 3) := by decide +kernel
theorem dX2_withRecording_141 : decode cX2_withRecording 141 = .ok (.iload 7, 2) := by decide +kernel
theorem dX2_withRecording_143 : decode cX2_withRecording 143 = .ok (.invokestatic 119, 3) := by decide +kernel
theorem dX2_withRecording_146 : decode cX2_withRecording 146 = .ok (.i2l, 1) := by decide +kernel
theorem dX2_withRecording_147 : decode cX2_withRecording 147 = .ok (.invokestatic 221, 3) := by decide +kernel
theorem dX2_withRecording_150 : decode cX2_withRecording 150 = .ok (.lstore 4, 2) := by decide +kernel
theorem dX2_withRecording_152 : decode cX2_withRecording 152 = .ok (.iinc 6 1, 3) := by decide +kernel
theorem dX2_withRecording_155 : decode cX2_withRecording 155 = .ok (.goto (-95), 3) := by decide +kernel
theorem dX2_withRecording_158 : decode cX2_withRecording 158 = .ok (.lload 4, 2) := by decide +kernel
theorem dX2_withRecording_160 : decode cX2_withRecording 160 = .ok (.lreturn, 1) := by decide +kernel
theorem dX2_mixed_0 : decode cX2_mixed 0 = .ok (.ldc2_w 258, 3) := by decide +kernel
theorem dX2_mixed_3 : decode cX2_mixed 3 = .ok (.lload_n 0, 1) := by decide +kernel
theorem dX2_mixed_4 : decode cX2_mixed 4 = .ok (.lmul, 1) := by decide +kernel
theorem dX2_mixed_5 : decode cX2_mixed 5 = .ok (.lload_n 2, 1) := by decide +kernel
theorem dX2_mixed_6 : decode cX2_mixed 6 = .ok (.ladd, 1) := by decide +kernel
theorem dX2_mixed_7 : decode cX2_mixed 7 = .ok (.lreturn, 1) := by decide +kernel
theorem dX2_save_0 : decode cX2_save 0 = .ok (.aload_n 0, 1) := by decide +kernel
theorem dX2_save_1 : decode cX2_save 1 = .ok (.aload_n 0, 1) := by decide +kernel
theorem dX2_save_2 : decode cX2_save 2 = .ok (.getfield 20, 3) := by decide +kernel
theorem dX2_save_5 : decode cX2_save 5 = .ok (.invokevirtual 208, 3) := by decide +kernel
theorem dX2_save_8 : decode cX2_save 8 = .ok (.astore_n 1, 1) := by decide +kernel
theorem dX2_save_9 : decode cX2_save 9 = .ok (.aload_n 1, 1) := by decide +kernel
theorem dX2_save_10 : decode cX2_save 10 = .ok (.ifnull 11, 3) := by decide +kernel
theorem dX2_save_13 : decode cX2_save 13 = .ok (.aload_n 1, 1) := by decide +kernel
theorem dX2_save_14 : decode cX2_save 14 = .ok (.aload_n 0, 1) := by decide +kernel
theorem dX2_save_15 : decode cX2_save 15 = .ok (.getfield 10, 3) := by decide +kernel
theorem dX2_save_18 : decode cX2_save 18 = .ok (.invokevirtual 212, 3) := by decide +kernel
theorem dX2_save_21 : decode cX2_save 21 = .ok (.aload_n 0, 1) := by decide +kernel
theorem dX2_save_22 : decode cX2_save 22 = .ok (.aload_n 0, 1) := by decide +kernel
theorem dX2_save_23 : decode cX2_save 23 = .ok (.getfield 20, 3) := by decide +kernel
theorem dX2_save_26 : decode cX2_save 26 = .ok (.iconst 1, 1) := by decide +kernel
theorem dX2_save_27 : decode cX2_save 27 = .ok (.iadd, 1) := by decide +kernel
theorem dX2_save_28 : decode cX2_save 28 = .ok (.bipush 6, 2) := by decide +kernel
theorem dX2_save_30 : decode cX2_save 30 = .ok (.if_icmp .ge 12, 3) := by decide +kernel
theorem dX2_save_33 : decode cX2_save 33 = .ok (.aload_n 0, 1) := by decide +kernel
theorem dX2_save_34 : decode cX2_save 34 = .ok (.getfield 20, 3) := by decide +kernel
theorem dX2_save_37 : decode cX2_save 37 = .ok (.iconst 1, 1) := by decide +kernel
theorem dX2_save_38 : decode cX2_save 38 = .ok (.iadd, 1) := by decide +kernel
theorem dX2_save_39 : decode cX2_save 39 = .ok (.goto 4, 3) := by decide +kernel
theorem dX2_save_42 : decode cX2_save 42 = .ok (.iconst 0, 1) := by decide +kernel
theorem dX2_save_43 : decode cX2_save 43 = .ok (.putfield 20, 3) := by decide +kernel
theorem dX2_save_46 : decode cX2_save 46 = .ok (.aload_n 0, 1) := by decide +kernel
theorem dX2_save_47 : decode cX2_save 47 = .ok (.getfield 24, 3) := by decide +kernel
theorem dX2_save_50 : decode cX2_save 50 = .ok (.bipush 6, 2) := by decide +kernel
theorem dX2_save_52 : decode cX2_save 52 = .ok (.if_icmp .ge 13, 3) := by decide +kernel
theorem dX2_save_55 : decode cX2_save 55 = .ok (.aload_n 0, 1) := by decide +kernel
theorem dX2_save_56 : decode cX2_save 56 = .ok (.dup, 1) := by decide +kernel
theorem dX2_save_57 : decode cX2_save 57 = .ok (.getfield 24, 3) := by decide +kernel
theorem dX2_save_60 : decode cX2_save 60 = .ok (.iconst 1, 1) := by decide +kernel
theorem dX2_save_61 : decode cX2_save 61 = .ok (.iadd, 1) := by decide +kernel
theorem dX2_save_62 : decode cX2_save 62 = .ok (.putfield 24, 3) := by decide +kernel
theorem dX2_save_65 : decode cX2_save 65 = .ok (.return_, 1) := by decide +kernel
theorem dX2_slotAt_0 : decode cX2_slotAt 0 = .ok (.iload_n 1, 1) := by decide +kernel
theorem dX2_slotAt_1 : decode cX2_slotAt 1 = .ok (.ifCond .lt 21, 3) := by decide +kernel
theorem dX2_slotAt_4 : decode cX2_slotAt 4 = .ok (.iload_n 1, 1) := by decide +kernel
theorem dX2_slotAt_5 : decode cX2_slotAt 5 = .ok (.aload_n 0, 1) := by decide +kernel
theorem dX2_slotAt_6 : decode cX2_slotAt 6 = .ok (.getfield 16, 3) := by decide +kernel
theorem dX2_slotAt_9 : decode cX2_slotAt 9 = .ok (.arraylength, 1) := by decide +kernel
theorem dX2_slotAt_10 : decode cX2_slotAt 10 = .ok (.if_icmp .ge 12, 3) := by decide +kernel
theorem dX2_slotAt_13 : decode cX2_slotAt 13 = .ok (.aload_n 0, 1) := by decide +kernel
theorem dX2_slotAt_14 : decode cX2_slotAt 14 = .ok (.getfield 16, 3) := by decide +kernel
theorem dX2_slotAt_17 : decode cX2_slotAt 17 = .ok (.iload_n 1, 1) := by decide +kernel
theorem dX2_slotAt_18 : decode cX2_slotAt 18 = .ok (.aaload, 1) := by decide +kernel
theorem dX2_slotAt_19 : decode cX2_slotAt 19 = .ok (.goto 4, 3) := by decide +kernel
theorem dX2_slotAt_22 : decode cX2_slotAt 22 = .ok (.aconst_null, 1) := by decide +kernel
theorem dX2_slotAt_23 : decode cX2_slotAt 23 = .ok (.areturn, 1) := by decide +kernel
theorem dX2_requireRecording_0 : decode cX2_requireRecording 0 = .ok (.aload_n 0, 1) := by decide +kernel
theorem dX2_requireRecording_1 : decode cX2_requireRecording 1 = .ok (.getfield 10, 3) := by decide +kernel
theorem dX2_requireRecording_4 : decode cX2_requireRecording 4 = .ok (.iload_n 1, 1) := by decide +kernel
theorem dX2_requireRecording_5 : decode cX2_requireRecording 5 = .ok (.invokevirtual 276, 3) := by decide +kernel
theorem dX2_requireRecording_8 : decode cX2_requireRecording 8 = .ok (.ifCond .ne 14, 3) := by decide +kernel
theorem dX2_requireRecording_11 : decode cX2_requireRecording 11 = .ok (.new 279, 3) := by decide +kernel
theorem dX2_requireRecording_14 : decode cX2_requireRecording 14 = .ok (.dup, 1) := by decide +kernel
theorem dX2_requireRecording_15 : decode cX2_requireRecording 15 = .ok (.ldc_w 281, 3) := by decide +kernel
theorem dX2_requireRecording_18 : decode cX2_requireRecording 18 = .ok (.invokespecial 283, 3) := by decide +kernel
theorem dX2_requireRecording_21 : decode cX2_requireRecording 21 = .ok (.athrow, 1) := by decide +kernel
theorem dX2_requireRecording_22 : decode cX2_requireRecording 22 = .ok (.return_, 1) := by decide +kernel
theorem dX2_requirePlace_0 : decode cX2_requirePlace 0 = .ok (.aload_n 0, 1) := by decide +kernel
theorem dX2_requirePlace_1 : decode cX2_requirePlace 1 = .ok (.getfield 10, 3) := by decide +kernel
theorem dX2_requirePlace_4 : decode cX2_requirePlace 4 = .ok (.iload_n 1, 1) := by decide +kernel
theorem dX2_requirePlace_5 : decode cX2_requirePlace 5 = .ok (.invokevirtual 276, 3) := by decide +kernel
theorem dX2_requirePlace_8 : decode cX2_requirePlace 8 = .ok (.ifCond .eq 7, 3) := by decide +kernel
theorem dX2_requirePlace_11 : decode cX2_requirePlace 11 = .ok (.iload_n 2, 1) := by decide +kernel
theorem dX2_requirePlace_12 : decode cX2_requirePlace 12 = .ok (.ifCond .ge 14, 3) := by decide +kernel
theorem dX2_requirePlace_15 : decode cX2_requirePlace 15 = .ok (.new 279, 3) := by decide +kernel
theorem dX2_requirePlace_18 : decode cX2_requirePlace 18 = .ok (.dup, 1) := by decide +kernel
theorem dX2_requirePlace_19 : decode cX2_requirePlace 19 = .ok (.ldc_w 284, 3) := by decide +kernel
theorem dX2_requirePlace_22 : decode cX2_requirePlace 22 = .ok (.invokespecial 283, 3) := by decide +kernel
theorem dX2_requirePlace_25 : decode cX2_requirePlace 25 = .ok (.athrow, 1) := by decide +kernel
theorem dX2_requirePlace_26 : decode cX2_requirePlace 26 = .ok (.return_, 1) := by decide +kernel
theorem dX2_requirePlayer_0 : decode cX2_requirePlayer 0 = .ok (.aload_n 0, 1) := by decide +kernel
theorem dX2_requirePlayer_1 : decode cX2_requirePlayer 1 = .ok (.getfield 10, 3) := by decide +kernel
theorem dX2_requirePlayer_4 : decode cX2_requirePlayer 4 = .ok (.getfield 157, 3) := by decide +kernel
theorem dX2_requirePlayer_7 : decode cX2_requirePlayer 7 = .ok (.iconst (-1), 1) := by decide +kernel
theorem dX2_requirePlayer_8 : decode cX2_requirePlayer 8 = .ok (.if_icmp .ne 14, 3) := by decide +kernel
theorem dX2_requirePlayer_11 : decode cX2_requirePlayer 11 = .ok (.new 38, 3) := by decide +kernel
theorem dX2_requirePlayer_14 : decode cX2_requirePlayer 14 = .ok (.dup, 1) := by decide +kernel
theorem dX2_requirePlayer_15 : decode cX2_requirePlayer 15 = .ok (.ldc_w 286, 3) := by decide +kernel
theorem dX2_requirePlayer_18 : decode cX2_requirePlayer 18 = .ok (.invokespecial 42, 3) := by decide +kernel
theorem dX2_requirePlayer_21 : decode cX2_requirePlayer 21 = .ok (.athrow, 1) := by decide +kernel
theorem dX2_requirePlayer_22 : decode cX2_requirePlayer 22 = .ok (.return_, 1) := by decide +kernel
theorem dX2_requireCell_0 : decode cX2_requireCell 0 = .ok (.iload_n 0, 1) := by decide +kernel
theorem dX2_requireCell_1 : decode cX2_requireCell 1 = .ok (.ifCond .lt 9, 3) := by decide +kernel
theorem dX2_requireCell_4 : decode cX2_requireCell 4 = .ok (.iload_n 0, 1) := by decide +kernel
theorem dX2_requireCell_5 : decode cX2_requireCell 5 = .ok (.bipush 32, 2) := by decide +kernel
theorem dX2_requireCell_7 : decode cX2_requireCell 7 = .ok (.if_icmp .lt 14, 3) := by decide +kernel
theorem dX2_requireCell_10 : decode cX2_requireCell 10 = .ok (.new 279, 3) := by decide +kernel
theorem dX2_requireCell_13 : decode cX2_requireCell 13 = .ok (.dup, 1) := by decide +kernel
theorem dX2_requireCell_14 : decode cX2_requireCell 14 = .ok (.ldc_w 288, 3) := by decide +kernel
theorem dX2_requireCell_17 : decode cX2_requireCell 17 = .ok (.invokespecial 283, 3) := by decide +kernel
theorem dX2_requireCell_20 : decode cX2_requireCell 20 = .ok (.athrow, 1) := by decide +kernel
theorem dX2_requireCell_21 : decode cX2_requireCell 21 = .ok (.return_, 1) := by decide +kernel
theorem dX2_requireSound_0 : decode cX2_requireSound 0 = .ok (.iload_n 0, 1) := by decide +kernel
theorem dX2_requireSound_1 : decode cX2_requireSound 1 = .ok (.ifCond .lt 9, 3) := by decide +kernel
theorem dX2_requireSound_4 : decode cX2_requireSound 4 = .ok (.iload_n 0, 1) := by decide +kernel
theorem dX2_requireSound_5 : decode cX2_requireSound 5 = .ok (.bipush 99, 2) := by decide +kernel
theorem dX2_requireSound_7 : decode cX2_requireSound 7 = .ok (.if_icmp .le 14, 3) := by decide +kernel
theorem dX2_requireSound_10 : decode cX2_requireSound 10 = .ok (.new 149, 3) := by decide +kernel
theorem dX2_requireSound_13 : decode cX2_requireSound 13 = .ok (.dup, 1) := by decide +kernel
theorem dX2_requireSound_14 : decode cX2_requireSound 14 = .ok (.ldc_w 290, 3) := by decide +kernel
theorem dX2_requireSound_17 : decode cX2_requireSound 17 = .ok (.invokespecial 153, 3) := by decide +kernel
theorem dX2_requireSound_20 : decode cX2_requireSound 20 = .ok (.athrow, 1) := by decide +kernel
theorem dX2_requireSound_21 : decode cX2_requireSound 21 = .ok (.return_, 1) := by decide +kernel
theorem dX2_requireForecast_0 : decode cX2_requireForecast 0 = .ok (.iload_n 0, 1) := by decide +kernel
theorem dX2_requireForecast_1 : decode cX2_requireForecast 1 = .ok (.iconst 1, 1) := by decide +kernel
theorem dX2_requireForecast_2 : decode cX2_requireForecast 2 = .ok (.if_icmp .lt 9, 3) := by decide +kernel
theorem dX2_requireForecast_5 : decode cX2_requireForecast 5 = .ok (.iload_n 0, 1) := by decide +kernel
theorem dX2_requireForecast_6 : decode cX2_requireForecast 6 = .ok (.bipush 32, 2) := by decide +kernel
theorem dX2_requireForecast_8 : decode cX2_requireForecast 8 = .ok (.if_icmp .le 14, 3) := by decide +kernel
theorem dX2_requireForecast_11 : decode cX2_requireForecast 11 = .ok (.new 149, 3) := by decide +kernel
theorem dX2_requireForecast_14 : decode cX2_requireForecast 14 = .ok (.dup, 1) := by decide +kernel
theorem dX2_requireForecast_15 : decode cX2_requireForecast 15 = .ok (.ldc_w 292, 3) := by decide +kernel
theorem dX2_requireForecast_18 : decode cX2_requireForecast 18 = .ok (.invokespecial 153, 3) := by decide +kernel
theorem dX2_requireForecast_21 : decode cX2_requireForecast 21 = .ok (.athrow, 1) := by decide +kernel
theorem dX2_requireForecast_22 : decode cX2_requireForecast 22 = .ok (.return_, 1) := by decide +kernel
