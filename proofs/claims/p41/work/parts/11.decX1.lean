theorem dX1_init_0 : decode cX1_init 0 = .ok (.aload_n 0, 1) := by decide +kernel
theorem dX1_init_1 : decode cX1_init 1 = .ok (.invokespecial 3, 3) := by decide +kernel
theorem dX1_init_4 : decode cX1_init 4 = .ok (.aload_n 0, 1) := by decide +kernel
theorem dX1_init_5 : decode cX1_init 5 = .ok (.bipush 32, 2) := by decide +kernel
theorem dX1_init_7 : decode cX1_init 7 = .ok (.newarray .int, 2) := by decide +kernel
theorem dX1_init_9 : decode cX1_init 9 = .ok (.putfield 9, 3) := by decide +kernel
theorem dX1_init_12 : decode cX1_init 12 = .ok (.iconst 0, 1) := by decide +kernel
theorem dX1_init_13 : decode cX1_init 13 = .ok (.istore_n 1, 1) := by decide +kernel
theorem dX1_init_14 : decode cX1_init 14 = .ok (.iload_n 1, 1) := by decide +kernel
theorem dX1_init_15 : decode cX1_init 15 = .ok (.bipush 32, 2) := by decide +kernel
theorem dX1_init_17 : decode cX1_init 17 = .ok (.if_icmp .ge 16, 3) := by decide +kernel
theorem dX1_init_20 : decode cX1_init 20 = .ok (.aload_n 0, 1) := by decide +kernel
theorem dX1_init_21 : decode cX1_init 21 = .ok (.getfield 9, 3) := by decide +kernel
theorem dX1_init_24 : decode cX1_init 24 = .ok (.iload_n 1, 1) := by decide +kernel
theorem dX1_init_25 : decode cX1_init 25 = .ok (.iconst (-1), 1) := by decide +kernel
theorem dX1_init_26 : decode cX1_init 26 = .ok (.iastore, 1) := by decide +kernel
theorem dX1_init_27 : decode cX1_init 27 = .ok (.iinc 1 1, 3) := by decide +kernel
theorem dX1_init_30 : decode cX1_init 30 = .ok (.goto (-16), 3) := by decide +kernel
theorem dX1_init_33 : decode cX1_init 33 = .ok (.aload_n 0, 1) := by decide +kernel
theorem dX1_init_34 : decode cX1_init 34 = .ok (.bipush 32, 2) := by decide +kernel
theorem dX1_init_36 : decode cX1_init 36 = .ok (.newarray .int, 2) := by decide +kernel
theorem dX1_init_38 : decode cX1_init 38 = .ok (.putfield 15, 3) := by decide +kernel
theorem dX1_init_41 : decode cX1_init 41 = .ok (.aload_n 0, 1) := by decide +kernel
theorem dX1_init_42 : decode cX1_init 42 = .ok (.bipush 32, 2) := by decide +kernel
theorem dX1_init_44 : decode cX1_init 44 = .ok (.newarray .int, 2) := by decide +kernel
theorem dX1_init_46 : decode cX1_init 46 = .ok (.putfield 18, 3) := by decide +kernel
theorem dX1_init_49 : decode cX1_init 49 = .ok (.aload_n 0, 1) := by decide +kernel
theorem dX1_init_50 : decode cX1_init 50 = .ok (.bipush 32, 2) := by decide +kernel
theorem dX1_init_52 : decode cX1_init 52 = .ok (.newarray .int, 2) := by decide +kernel
theorem dX1_init_54 : decode cX1_init 54 = .ok (.putfield 21, 3) := by decide +kernel
theorem dX1_init_57 : decode cX1_init 57 = .ok (.aload_n 0, 1) := by decide +kernel
theorem dX1_init_58 : decode cX1_init 58 = .ok (.iconst 0, 1) := by decide +kernel
theorem dX1_init_59 : decode cX1_init 59 = .ok (.putfield 24, 3) := by decide +kernel
theorem dX1_init_62 : decode cX1_init 62 = .ok (.aload_n 0, 1) := by decide +kernel
theorem dX1_init_63 : decode cX1_init 63 = .ok (.bipush 10, 2) := by decide +kernel
theorem dX1_init_65 : decode cX1_init 65 = .ok (.newarray .int, 2) := by decide +kernel
theorem dX1_init_67 : decode cX1_init 67 = .ok (.putfield 28, 3) := by decide +kernel
theorem dX1_init_70 : decode cX1_init 70 = .ok (.aload_n 0, 1) := by decide +kernel
theorem dX1_init_71 : decode cX1_init 71 = .ok (.bipush 10, 2) := by decide +kernel
theorem dX1_init_73 : decode cX1_init 73 = .ok (.newarray .int, 2) := by decide +kernel
theorem dX1_init_75 : decode cX1_init 75 = .ok (.putfield 31, 3) := by decide +kernel
theorem dX1_init_78 : decode cX1_init 78 = .ok (.aload_n 0, 1) := by decide +kernel
theorem dX1_init_79 : decode cX1_init 79 = .ok (.iconst 0, 1) := by decide +kernel
theorem dX1_init_80 : decode cX1_init 80 = .ok (.putfield 34, 3) := by decide +kernel
theorem dX1_init_83 : decode cX1_init 83 = .ok (.aload_n 0, 1) := by decide +kernel
theorem dX1_init_84 : decode cX1_init 84 = .ok (.iconst 0, 1) := by decide +kernel
theorem dX1_init_85 : decode cX1_init 85 = .ok (.putfield 37, 3) := by decide +kernel
theorem dX1_init_88 : decode cX1_init 88 = .ok (.aload_n 0, 1) := by decide +kernel
theorem dX1_init_89 : decode cX1_init 89 = .ok (.iconst 0, 1) := by decide +kernel
theorem dX1_init_90 : decode cX1_init 90 = .ok (.putfield 41, 3) := by decide +kernel
theorem dX1_init_93 : decode cX1_init 93 = .ok (.aload_n 0, 1) := by decide +kernel
theorem dX1_init_94 : decode cX1_init 94 = .ok (.iconst 0, 1) := by decide +kernel
theorem dX1_init_95 : decode cX1_init 95 = .ok (.putfield 44, 3) := by decide +kernel
theorem dX1_init_98 : decode cX1_init 98 = .ok (.aload_n 0, 1) := by decide +kernel
theorem dX1_init_99 : decode cX1_init 99 = .ok (.iconst 0, 1) := by decide +kernel
theorem dX1_init_100 : decode cX1_init 100 = .ok (.putfield 47, 3) := by decide +kernel
theorem dX1_init_103 : decode cX1_init 103 = .ok (.aload_n 0, 1) := by decide +kernel
theorem dX1_init_104 : decode cX1_init 104 = .ok (.iconst (-1), 1) := by decide +kernel
theorem dX1_init_105 : decode cX1_init 105 = .ok (.putfield 50, 3) := by decide +kernel
theorem dX1_init_108 : decode cX1_init 108 = .ok (.aload_n 0, 1) := by decide +kernel
theorem dX1_init_109 : decode cX1_init 109 = .ok (.iconst (-1), 1) := by decide +kernel
theorem dX1_init_110 : decode cX1_init 110 = .ok (.putfield 53, 3) := by decide +kernel
theorem dX1_init_113 : decode cX1_init 113 = .ok (.return_, 1) := by decide +kernel
theorem dX1_copyFrom_0 : decode cX1_copyFrom 0 = .ok (.aload_n 1, 1) := by decide +kernel
theorem dX1_copyFrom_1 : decode cX1_copyFrom 1 = .ok (.getfield 9, 3) := by decide +kernel
theorem dX1_copyFrom_4 : decode cX1_copyFrom 4 = .ok (.iconst 0, 1) := by decide +kernel
theorem dX1_copyFrom_5 : decode cX1_copyFrom 5 = .ok (.aload_n 0, 1) := by decide +kernel
theorem dX1_copyFrom_6 : decode cX1_copyFrom 6 = .ok (.getfield 9, 3) := by decide +kernel
theorem dX1_copyFrom_9 : decode cX1_copyFrom 9 = .ok (.iconst 0, 1) := by decide +kernel
theorem dX1_copyFrom_10 : decode cX1_copyFrom 10 = .ok (.bipush 32, 2) := by decide +kernel
theorem dX1_copyFrom_12 : decode cX1_copyFrom 12 = .ok (.invokestatic 56, 3) := by decide +kernel
theorem dX1_copyFrom_15 : decode cX1_copyFrom 15 = .ok (.aload_n 1, 1) := by decide +kernel
theorem dX1_copyFrom_16 : decode cX1_copyFrom 16 = .ok (.getfield 15, 3) := by decide +kernel
theorem dX1_copyFrom_19 : decode cX1_copyFrom 19 = .ok (.iconst 0, 1) := by decide +kernel
theorem dX1_copyFrom_20 : decode cX1_copyFrom 20 = .ok (.aload_n 0, 1) := by decide +kernel
theorem dX1_copyFrom_21 : decode cX1_copyFrom 21 = .ok (.getfield 15, 3) := by decide +kernel
theorem dX1_copyFrom_24 : decode cX1_copyFrom 24 = .ok (.iconst 0, 1) := by decide +kernel
theorem dX1_copyFrom_25 : decode cX1_copyFrom 25 = .ok (.bipush 32, 2) := by decide +kernel
theorem dX1_copyFrom_27 : decode cX1_copyFrom 27 = .ok (.invokestatic 56, 3) := by decide +kernel
theorem dX1_copyFrom_30 : decode cX1_copyFrom 30 = .ok (.aload_n 1, 1) := by decide +kernel
theorem dX1_copyFrom_31 : decode cX1_copyFrom 31 = .ok (.getfield 18, 3) := by decide +kernel
theorem dX1_copyFrom_34 : decode cX1_copyFrom 34 = .ok (.iconst 0, 1) := by decide +kernel
theorem dX1_copyFrom_35 : decode cX1_copyFrom 35 = .ok (.aload_n 0, 1) := by decide +kernel
theorem dX1_copyFrom_36 : decode cX1_copyFrom 36 = .ok (.getfield 18, 3) := by decide +kernel
theorem dX1_copyFrom_39 : decode cX1_copyFrom 39 = .ok (.iconst 0, 1) := by decide +kernel
theorem dX1_copyFrom_40 : decode cX1_copyFrom 40 = .ok (.bipush 32, 2) := by decide +kernel
theorem dX1_copyFrom_42 : decode cX1_copyFrom 42 = .ok (.invokestatic 56, 3) := by decide +kernel
theorem dX1_copyFrom_45 : decode cX1_copyFrom 45 = .ok (.aload_n 1, 1) := by decide +kernel
theorem dX1_copyFrom_46 : decode cX1_copyFrom 46 = .ok (.getfield 21, 3) := by decide +kernel
theorem dX1_copyFrom_49 : decode cX1_copyFrom 49 = .ok (.iconst 0, 1) := by decide +kernel
theorem dX1_copyFrom_50 : decode cX1_copyFrom 50 = .ok (.aload_n 0, 1) := by decide +kernel
theorem dX1_copyFrom_51 : decode cX1_copyFrom 51 = .ok (.getfield 21, 3) := by decide +kernel
theorem dX1_copyFrom_54 : decode cX1_copyFrom 54 = .ok (.iconst 0, 1) := by decide +kernel
theorem dX1_copyFrom_55 : decode cX1_copyFrom 55 = .ok (.bipush 32, 2) := by decide +kernel
theorem dX1_copyFrom_57 : decode cX1_copyFrom 57 = .ok (.invokestatic 56, 3) := by decide +kernel
theorem dX1_copyFrom_60 : decode cX1_copyFrom 60 = .ok (.aload_n 0, 1) := by decide +kernel
theorem dX1_copyFrom_61 : decode cX1_copyFrom 61 = .ok (.aload_n 1, 1) := by decide +kernel
theorem dX1_copyFrom_62 : decode cX1_copyFrom 62 = .ok (.getfield 24, 3) := by decide +kernel
theorem dX1_copyFrom_65 : decode cX1_copyFrom 65 = .ok (.putfield 24, 3) := by decide +kernel
theorem dX1_copyFrom_68 : decode cX1_copyFrom 68 = .ok (.aload_n 1, 1) := by decide +kernel
theorem dX1_copyFrom_69 : decode cX1_copyFrom 69 = .ok (.getfield 28, 3) := by decide +kernel
theorem dX1_copyFrom_72 : decode cX1_copyFrom 72 = .ok (.iconst 0, 1) := by decide +kernel
theorem dX1_copyFrom_73 : decode cX1_copyFrom 73 = .ok (.aload_n 0, 1) := by decide +kernel
theorem dX1_copyFrom_74 : decode cX1_copyFrom 74 = .ok (.getfield 28, 3) := by decide +kernel
theorem dX1_copyFrom_77 : decode cX1_copyFrom 77 = .ok (.iconst 0, 1) := by decide +kernel
theorem dX1_copyFrom_78 : decode cX1_copyFrom 78 = .ok (.bipush 10, 2) := by decide +kernel
theorem dX1_copyFrom_80 : decode cX1_copyFrom 80 = .ok (.invokestatic 56, 3) := by decide +kernel
theorem dX1_copyFrom_83 : decode cX1_copyFrom 83 = .ok (.aload_n 1, 1) := by decide +kernel
theorem dX1_copyFrom_84 : decode cX1_copyFrom 84 = .ok (.getfield 31, 3) := by decide +kernel
theorem dX1_copyFrom_87 : decode cX1_copyFrom 87 = .ok (.iconst 0, 1) := by decide +kernel
theorem dX1_copyFrom_88 : decode cX1_copyFrom 88 = .ok (.aload_n 0, 1) := by decide +kernel
theorem dX1_copyFrom_89 : decode cX1_copyFrom 89 = .ok (.getfield 31, 3) := by decide +kernel
theorem dX1_copyFrom_92 : decode cX1_copyFrom 92 = .ok (.iconst 0, 1) := by decide +kernel
theorem dX1_copyFrom_93 : decode cX1_copyFrom 93 = .ok (.bipush 10, 2) := by decide +kernel
theorem dX1_copyFrom_95 : decode cX1_copyFrom 95 = .ok (.invokestatic 56, 3) := by decide +kernel
theorem dX1_copyFrom_98 : decode cX1_copyFrom 98 = .ok (.aload_n 0, 1) := by decide +kernel
theorem dX1_copyFrom_99 : decode cX1_copyFrom 99 = .ok (.aload_n 1, 1) := by decide +kernel
theorem dX1_copyFrom_100 : decode cX1_copyFrom 100 = .ok (.getfield 34, 3) := by decide +kernel
theorem dX1_copyFrom_103 : decode cX1_copyFrom 103 = .ok (.putfield 34, 3) := by decide +kernel
theorem dX1_copyFrom_106 : decode cX1_copyFrom 106 = .ok (.aload_n 0, 1) := by decide +kernel
theorem dX1_copyFrom_107 : decode cX1_copyFrom 107 = .ok (.aload_n 1, 1) := by decide +kernel
theorem dX1_copyFrom_108 : decode cX1_copyFrom 108 = .ok (.getfield 37, 3) := by decide +kernel
theorem dX1_copyFrom_111 : decode cX1_copyFrom 111 = .ok (.putfield 37, 3) := by decide +kernel
theorem dX1_copyFrom_114 : decode cX1_copyFrom 114 = .ok (.aload_n 0, 1) := by decide +kernel
theorem dX1_copyFrom_115 : decode cX1_copyFrom 115 = .ok (.aload_n 1, 1) := by decide +kernel
theorem dX1_copyFrom_116 : decode cX1_copyFrom 116 = .ok (.getfield 41, 3) := by decide +kernel
theorem dX1_copyFrom_119 : decode cX1_copyFrom 119 = .ok (.putfield 41, 3) := by decide +kernel
theorem dX1_copyFrom_122 : decode cX1_copyFrom 122 = .ok (.aload_n 0, 1) := by decide +kernel
theorem dX1_copyFrom_123 : decode cX1_copyFrom 123 = .ok (.aload_n 1, 1) := by decide +kernel
theorem dX1_copyFrom_124 : decode cX1_copyFrom 124 = .ok (.getfield 44, 3) := by decide +kernel
theorem dX1_copyFrom_127 : decode cX1_copyFrom 127 = .ok (.putfield 44, 3) := by decide +kernel
theorem dX1_copyFrom_130 : decode cX1_copyFrom 130 = .ok (.aload_n 0, 1) := by decide +kernel
theorem dX1_copyFrom_131 : decode cX1_copyFrom 131 = .ok (.aload_n 1, 1) := by decide +kernel
theorem dX1_copyFrom_132 : decode cX1_copyFrom 132 = .ok (.getfield 47, 3) := by decide +kernel
theorem dX1_copyFrom_135 : decode cX1_copyFrom 135 = .ok (.putfield 47, 3) := by decide +kernel
theorem dX1_copyFrom_138 : decode cX1_copyFrom 138 = .ok (.aload_n 0, 1) := by decide +kernel
theorem dX1_copyFrom_139 : decode cX1_copyFrom 139 = .ok (.aload_n 1, 1) := by decide +kernel
theorem dX1_copyFrom_140 : decode cX1_copyFrom 140 = .ok (.getfield 50, 3) := by decide +kernel
theorem dX1_copyFrom_143 : decode cX1_copyFrom 143 = .ok (.putfield 50, 3) := by decide +kernel
theorem dX1_copyFrom_146 : decode cX1_copyFrom 146 = .ok (.aload_n 0, 1) := by decide +kernel
theorem dX1_copyFrom_147 : decode cX1_copyFrom 147 = .ok (.aload_n 1, 1) := by decide +kernel
theorem dX1_copyFrom_148 : decode cX1_copyFrom 148 = .ok (.getfield 53, 3) := by decide +kernel
theorem dX1_copyFrom_151 : decode cX1_copyFrom 151 = .ok (.putfield 53, 3) := by decide +kernel
theorem dX1_copyFrom_154 : decode cX1_copyFrom 154 = .ok (.return_, 1) := by decide +kernel
theorem dX1_isRecording_0 : decode cX1_isRecording 0 = .ok (.iload_n 1, 1) := by decide +kernel
theorem dX1_isRecording_1 : decode cX1_isRecording 1 = .ok (.ifCond .lt 15, 3) := by decide +kernel
theorem dX1_isRecording_4 : decode cX1_isRecording 4 = .ok (.iload_n 1, 1) := by decide +kernel
theorem dX1_isRecording_5 : decode cX1_isRecording 5 = .ok (.aload_n 0, 1) := by decide +kernel
theorem dX1_isRecording_6 : decode cX1_isRecording 6 = .ok (.getfield 34, 3) := by decide +kernel
theorem dX1_isRecording_9 : decode cX1_isRecording 9 = .ok (.if_icmp .ge 7, 3) := by decide +kernel
theorem dX1_isRecording_12 : decode cX1_isRecording 12 = .ok (.iconst 1, 1) := by decide +kernel
theorem dX1_isRecording_13 : decode cX1_isRecording 13 = .ok (.goto 4, 3) := by decide +kernel
theorem dX1_isRecording_16 : decode cX1_isRecording 16 = .ok (.iconst 0, 1) := by decide +kernel
theorem dX1_isRecording_17 : decode cX1_isRecording 17 = .ok (.ireturn, 1) := by decide +kernel
theorem dX1_runningNumber_0 : decode cX1_runningNumber 0 = .ok (.aload_n 0, 1) := by decide +kernel
theorem dX1_runningNumber_1 : decode cX1_runningNumber 1 = .ok (.getfield 37, 3) := by decide +kernel
theorem dX1_runningNumber_4 : decode cX1_runningNumber 4 = .ok (.ifCond .eq 12, 3) := by decide +kernel
theorem dX1_runningNumber_7 : decode cX1_runningNumber 7 = .ok (.aload_n 0, 1) := by decide +kernel
theorem dX1_runningNumber_8 : decode cX1_runningNumber 8 = .ok (.getfield 34, 3) := by decide +kernel
theorem dX1_runningNumber_11 : decode cX1_runningNumber 11 = .ok (.iconst 1, 1) := by decide +kernel
theorem dX1_runningNumber_12 : decode cX1_runningNumber 12 = .ok (.isub, 1) := by decide +kernel
theorem dX1_runningNumber_13 : decode cX1_runningNumber 13 = .ok (.goto 4, 3) := by decide +kernel
theorem dX1_runningNumber_16 : decode cX1_runningNumber 16 = .ok (.iconst (-1), 1) := by decide +kernel
theorem dX1_runningNumber_17 : decode cX1_runningNumber 17 = .ok (.ireturn, 1) := by decide +kernel
theorem dX1_isFlagged_0 : decode cX1_isFlagged 0 = .ok (.aload_n 0, 1) := by decide +kernel
theorem dX1_isFlagged_1 : decode cX1_isFlagged 1 = .ok (.getfield 28, 3) := by decide +kernel
theorem dX1_isFlagged_4 : decode cX1_isFlagged 4 = .ok (.iload_n 1, 1) := by decide +kernel
theorem dX1_isFlagged_5 : decode cX1_isFlagged 5 = .ok (.invokestatic 62, 3) := by decide +kernel
theorem dX1_isFlagged_8 : decode cX1_isFlagged 8 = .ok (.iconst 1, 1) := by decide +kernel
theorem dX1_isFlagged_9 : decode cX1_isFlagged 9 = .ok (.if_icmp .ne 7, 3) := by decide +kernel
theorem dX1_isFlagged_12 : decode cX1_isFlagged 12 = .ok (.iconst 1, 1) := by decide +kernel
theorem dX1_isFlagged_13 : decode cX1_isFlagged 13 = .ok (.goto 4, 3) := by decide +kernel
theorem dX1_isFlagged_16 : decode cX1_isFlagged 16 = .ok (.iconst 0, 1) := by decide +kernel
theorem dX1_isFlagged_17 : decode cX1_isFlagged 17 = .ok (.ireturn, 1) := by decide +kernel
theorem dX1_putFlag_0 : decode cX1_putFlag 0 = .ok (.aload_n 0, 1) := by decide +kernel
theorem dX1_putFlag_1 : decode cX1_putFlag 1 = .ok (.getfield 28, 3) := by decide +kernel
theorem dX1_putFlag_4 : decode cX1_putFlag 4 = .ok (.iload_n 1, 1) := by decide +kernel
theorem dX1_putFlag_5 : decode cX1_putFlag 5 = .ok (.iload_n 2, 1) := by decide +kernel
theorem dX1_putFlag_6 : decode cX1_putFlag 6 = .ok (.ifCond .eq 7, 3) := by decide +kernel
theorem dX1_putFlag_9 : decode cX1_putFlag 9 = .ok (.iconst 1, 1) := by decide +kernel
theorem dX1_putFlag_10 : decode cX1_putFlag 10 = .ok (.goto 4, 3) := by decide +kernel
theorem dX1_putFlag_13 : decode cX1_putFlag 13 = .ok (.iconst 0, 1) := by decide +kernel
theorem dX1_putFlag_14 : decode cX1_putFlag 14 = .ok (.invokestatic 66, 3) := by decide +kernel
theorem dX1_putFlag_17 : decode cX1_putFlag 17 = .ok (.return_, 1) := by decide +kernel
theorem dX1_cellCount_0 : decode cX1_cellCount 0 = .ok (.iconst 0, 1) := by decide +kernel
theorem dX1_cellCount_1 : decode cX1_cellCount 1 = .ok (.istore_n 2, 1) := by decide +kernel
theorem dX1_cellCount_2 : decode cX1_cellCount 2 = .ok (.iconst 0, 1) := by decide +kernel
theorem dX1_cellCount_3 : decode cX1_cellCount 3 = .ok (.istore_n 3, 1) := by decide +kernel
theorem dX1_cellCount_4 : decode cX1_cellCount 4 = .ok (.iload_n 3, 1) := by decide +kernel
theorem dX1_cellCount_5 : decode cX1_cellCount 5 = .ok (.bipush 32, 2) := by decide +kernel
theorem dX1_cellCount_7 : decode cX1_cellCount 7 = .ok (.if_icmp .ge 24, 3) := by decide +kernel
theorem dX1_cellCount_10 : decode cX1_cellCount 10 = .ok (.aload_n 0, 1) := by decide +kernel
theorem dX1_cellCount_11 : decode cX1_cellCount 11 = .ok (.getfield 9, 3) := by decide +kernel
theorem dX1_cellCount_14 : decode cX1_cellCount 14 = .ok (.iload_n 3, 1) := by decide +kernel
theorem dX1_cellCount_15 : decode cX1_cellCount 15 = .ok (.invokestatic 62, 3) := by decide +kernel
theorem dX1_cellCount_18 : decode cX1_cellCount 18 = .ok (.iload_n 1, 1) := by decide +kernel
theorem dX1_cellCount_19 : decode cX1_cellCount 19 = .ok (.if_icmp .ne 6, 3) := by decide +kernel
theorem dX1_cellCount_22 : decode cX1_cellCount 22 = .ok (.iinc 2 1, 3) := by decide +kernel
theorem dX1_cellCount_25 : decode cX1_cellCount 25 = .ok (.iinc 3 1, 3) := by decide +kernel
theorem dX1_cellCount_28 : decode cX1_cellCount 28 = .ok (.goto (-24), 3) := by decide +kernel
theorem dX1_cellCount_31 : decode cX1_cellCount 31 = .ok (.iload_n 2, 1) := by decide +kernel
theorem dX1_cellCount_32 : decode cX1_cellCount 32 = .ok (.ireturn, 1) := by decide +kernel
theorem dX1_cellAt_0 : decode cX1_cellAt 0 = .ok (.iconst 0, 1) := by decide +kernel
theorem dX1_cellAt_1 : decode cX1_cellAt 1 = .ok (.istore_n 3, 1) := by decide +kernel
theorem dX1_cellAt_2 : decode cX1_cellAt 2 = .ok (.iconst 0, 1) := by decide +kernel
theorem dX1_cellAt_3 : decode cX1_cellAt 3 = .ok (.istore 4, 2) := by decide +kernel
theorem dX1_cellAt_5 : decode cX1_cellAt 5 = .ok (.iload 4, 2) := by decide +kernel
theorem dX1_cellAt_7 : decode cX1_cellAt 7 = .ok (.aload_n 0, 1) := by decide +kernel
theorem dX1_cellAt_8 : decode cX1_cellAt 8 = .ok (.getfield 24, 3) := by decide +kernel
theorem dX1_cellAt_11 : decode cX1_cellAt 11 = .ok (.if_icmp .ge 44, 3) := by decide +kernel
theorem dX1_cellAt_14 : decode cX1_cellAt 14 = .ok (.aload_n 0, 1) := by decide +kernel
theorem dX1_cellAt_15 : decode cX1_cellAt 15 = .ok (.getfield 21, 3) := by decide +kernel
theorem dX1_cellAt_18 : decode cX1_cellAt 18 = .ok (.iload 4, 2) := by decide +kernel
theorem dX1_cellAt_20 : decode cX1_cellAt 20 = .ok (.invokestatic 62, 3) := by decide +kernel
theorem dX1_cellAt_23 : decode cX1_cellAt 23 = .ok (.istore 5, 2) := by decide +kernel
theorem dX1_cellAt_25 : decode cX1_cellAt 25 = .ok (.aload_n 0, 1) := by decide +kernel
theorem dX1_cellAt_26 : decode cX1_cellAt 26 = .ok (.getfield 9, 3) := by decide +kernel
theorem dX1_cellAt_29 : decode cX1_cellAt 29 = .ok (.iload 5, 2) := by decide +kernel
theorem dX1_cellAt_31 : decode cX1_cellAt 31 = .ok (.invokestatic 62, 3) := by decide +kernel
theorem dX1_cellAt_34 : decode cX1_cellAt 34 = .ok (.iload_n 1, 1) := by decide +kernel
theorem dX1_cellAt_35 : decode cX1_cellAt 35 = .ok (.if_icmp .ne 14, 3) := by decide +kernel
theorem dX1_cellAt_38 : decode cX1_cellAt 38 = .ok (.iload_n 3, 1) := by decide +kernel
theorem dX1_cellAt_39 : decode cX1_cellAt 39 = .ok (.iload_n 2, 1) := by decide +kernel
theorem dX1_cellAt_40 : decode cX1_cellAt 40 = .ok (.if_icmp .ne 6, 3) := by decide +kernel
theorem dX1_cellAt_43 : decode cX1_cellAt 43 = .ok (.iload 5, 2) := by decide +kernel
theorem dX1_cellAt_45 : decode cX1_cellAt 45 = .ok (.ireturn, 1) := by decide +kernel
theorem dX1_cellAt_46 : decode cX1_cellAt 46 = .ok (.iinc 3 1, 3) := by decide +kernel
theorem dX1_cellAt_49 : decode cX1_cellAt 49 = .ok (.iinc 4 1, 3) := by decide +kernel
theorem dX1_cellAt_52 : decode cX1_cellAt 52 = .ok (.goto (-47), 3) := by decide +kernel
theorem dX1_cellAt_55 : decode cX1_cellAt 55 = .ok (.iconst (-1), 1) := by decide +kernel
theorem dX1_cellAt_56 : decode cX1_cellAt 56 = .ok (.ireturn, 1) := by decide +kernel
theorem dX1_mayBegin_0 : decode cX1_mayBegin 0 = .ok (.aload_n 0, 1) := by decide +kernel
theorem dX1_mayBegin_1 : decode cX1_mayBegin 1 = .ok (.getfield 34, 3) := by decide +kernel
theorem dX1_mayBegin_4 : decode cX1_mayBegin 4 = .ok (.bipush 10, 2) := by decide +kernel
theorem dX1_mayBegin_6 : decode cX1_mayBegin 6 = .ok (.if_icmp .lt 21, 3) := by decide +kernel
theorem dX1_mayBegin_9 : decode cX1_mayBegin 9 = .ok (.aload_n 0, 1) := by decide +kernel
theorem dX1_mayBegin_10 : decode cX1_mayBegin 10 = .ok (.getfield 37, 3) := by decide +kernel
theorem dX1_mayBegin_13 : decode cX1_mayBegin 13 = .ok (.ifCond .eq 18, 3) := by decide +kernel
theorem dX1_mayBegin_16 : decode cX1_mayBegin 16 = .ok (.aload_n 0, 1) := by decide +kernel
theorem dX1_mayBegin_17 : decode cX1_mayBegin 17 = .ok (.aload_n 0, 1) := by decide +kernel
theorem dX1_mayBegin_18 : decode cX1_mayBegin 18 = .ok (.invokevirtual 70, 3) := by decide +kernel
theorem dX1_mayBegin_21 : decode cX1_mayBegin 21 = .ok (.invokevirtual 74, 3) := by decide +kernel
theorem dX1_mayBegin_24 : decode cX1_mayBegin 24 = .ok (.ifCond .ne 7, 3) := by decide +kernel
theorem dX1_mayBegin_27 : decode cX1_mayBegin 27 = .ok (.iconst 1, 1) := by decide +kernel
theorem dX1_mayBegin_28 : decode cX1_mayBegin 28 = .ok (.goto 4, 3) := by decide +kernel
theorem dX1_mayBegin_31 : decode cX1_mayBegin 31 = .ok (.iconst 0, 1) := by decide +kernel
theorem dX1_mayBegin_32 : decode cX1_mayBegin 32 = .ok (.ireturn, 1) := by decide +kernel
theorem dX1_beginRecording_0 : decode cX1_beginRecording 0 = .ok (.aload_n 0, 1) := by decide +kernel
theorem dX1_beginRecording_1 : decode cX1_beginRecording 1 = .ok (.getfield 37, 3) := by decide +kernel
theorem dX1_beginRecording_4 : decode cX1_beginRecording 4 = .ok (.ifCond .eq 8, 3) := by decide +kernel
theorem dX1_beginRecording_7 : decode cX1_beginRecording 7 = .ok (.aload_n 0, 1) := by decide +kernel
theorem dX1_beginRecording_8 : decode cX1_beginRecording 8 = .ok (.invokevirtual 78, 3) := by decide +kernel
theorem dX1_beginRecording_11 : decode cX1_beginRecording 11 = .ok (.pop, 1) := by decide +kernel
theorem dX1_beginRecording_12 : decode cX1_beginRecording 12 = .ok (.aload_n 0, 1) := by decide +kernel
theorem dX1_beginRecording_13 : decode cX1_beginRecording 13 = .ok (.getfield 34, 3) := by decide +kernel
theorem dX1_beginRecording_16 : decode cX1_beginRecording 16 = .ok (.istore_n 1, 1) := by decide +kernel
theorem dX1_beginRecording_17 : decode cX1_beginRecording 17 = .ok (.aload_n 0, 1) := by decide +kernel
theorem dX1_beginRecording_18 : decode cX1_beginRecording 18 = .ok (.getfield 28, 3) := by decide +kernel
theorem dX1_beginRecording_21 : decode cX1_beginRecording 21 = .ok (.iload_n 1, 1) := by decide +kernel
theorem dX1_beginRecording_22 : decode cX1_beginRecording 22 = .ok (.iconst 0, 1) := by decide +kernel
theorem dX1_beginRecording_23 : decode cX1_beginRecording 23 = .ok (.invokestatic 66, 3) := by decide +kernel
theorem dX1_beginRecording_26 : decode cX1_beginRecording 26 = .ok (.aload_n 0, 1) := by decide +kernel
theorem dX1_beginRecording_27 : decode cX1_beginRecording 27 = .ok (.getfield 31, 3) := by decide +kernel
theorem dX1_beginRecording_30 : decode cX1_beginRecording 30 = .ok (.iload_n 1, 1) := by decide +kernel
theorem dX1_beginRecording_31 : decode cX1_beginRecording 31 = .ok (.iconst 0, 1) := by decide +kernel
theorem dX1_beginRecording_32 : decode cX1_beginRecording 32 = .ok (.invokestatic 66, 3) := by decide +kernel
theorem dX1_beginRecording_35 : decode cX1_beginRecording 35 = .ok (.aload_n 0, 1) := by decide +kernel
theorem dX1_beginRecording_36 : decode cX1_beginRecording 36 = .ok (.dup, 1) := by decide +kernel
theorem dX1_beginRecording_37 : decode cX1_beginRecording 37 = .ok (.getfield 34, 3) := by decide +kernel
theorem dX1_beginRecording_40 : decode cX1_beginRecording 40 = .ok (.iconst 1, 1) := by decide +kernel
theorem dX1_beginRecording_41 : decode cX1_beginRecording 41 = .ok (.iadd, 1) := by decide +kernel
theorem dX1_beginRecording_42 : decode cX1_beginRecording 42 = .ok (.putfield 34, 3) := by decide +kernel
theorem dX1_beginRecording_45 : decode cX1_beginRecording 45 = .ok (.aload_n 0, 1) := by decide +kernel
theorem dX1_beginRecording_46 : decode cX1_beginRecording 46 = .ok (.iconst 1, 1) := by decide +kernel
theorem dX1_beginRecording_47 : decode cX1_beginRecording 47 = .ok (.putfield 37, 3) := by decide +kernel
theorem dX1_beginRecording_50 : decode cX1_beginRecording 50 = .ok (.iload_n 1, 1) := by decide +kernel
theorem dX1_beginRecording_51 : decode cX1_beginRecording 51 = .ok (.ireturn, 1) := by decide +kernel
theorem dX1_stopRecording_0 : decode cX1_stopRecording 0 = .ok (.aload_n 0, 1) := by decide +kernel
theorem dX1_stopRecording_1 : decode cX1_stopRecording 1 = .ok (.invokevirtual 70, 3) := by decide +kernel
theorem dX1_stopRecording_4 : decode cX1_stopRecording 4 = .ok (.istore_n 1, 1) := by decide +kernel
theorem dX1_stopRecording_5 : decode cX1_stopRecording 5 = .ok (.aload_n 0, 1) := by decide +kernel
theorem dX1_stopRecording_6 : decode cX1_stopRecording 6 = .ok (.iload_n 1, 1) := by decide +kernel
theorem dX1_stopRecording_7 : decode cX1_stopRecording 7 = .ok (.invokevirtual 74, 3) := by decide +kernel
theorem dX1_stopRecording_10 : decode cX1_stopRecording 10 = .ok (.istore_n 2, 1) := by decide +kernel
theorem dX1_stopRecording_11 : decode cX1_stopRecording 11 = .ok (.aload_n 0, 1) := by decide +kernel
theorem dX1_stopRecording_12 : decode cX1_stopRecording 12 = .ok (.iconst 0, 1) := by decide +kernel
theorem dX1_stopRecording_13 : decode cX1_stopRecording 13 = .ok (.putfield 37, 3) := by decide +kernel
theorem dX1_stopRecording_16 : decode cX1_stopRecording 16 = .ok (.iload_n 2, 1) := by decide +kernel
theorem dX1_stopRecording_17 : decode cX1_stopRecording 17 = .ok (.ifCond .ne 8, 3) := by decide +kernel
theorem dX1_stopRecording_20 : decode cX1_stopRecording 20 = .ok (.aload_n 0, 1) := by decide +kernel
theorem dX1_stopRecording_21 : decode cX1_stopRecording 21 = .ok (.iload_n 1, 1) := by decide +kernel
theorem dX1_stopRecording_22 : decode cX1_stopRecording 22 = .ok (.invokevirtual 81, 3) := by decide +kernel
theorem dX1_stopRecording_25 : decode cX1_stopRecording 25 = .ok (.iload_n 2, 1) := by decide +kernel
theorem dX1_stopRecording_26 : decode cX1_stopRecording 26 = .ok (.ireturn, 1) := by decide +kernel
theorem dX1_eraseRecording_0 : decode cX1_eraseRecording 0 = .ok (.iconst 0, 1) := by decide +kernel
theorem dX1_eraseRecording_1 : decode cX1_eraseRecording 1 = .ok (.istore_n 2, 1) := by decide +kernel
theorem dX1_eraseRecording_2 : decode cX1_eraseRecording 2 = .ok (.iconst 0, 1) := by decide +kernel
theorem dX1_eraseRecording_3 : decode cX1_eraseRecording 3 = .ok (.istore_n 3, 1) := by decide +kernel
theorem dX1_eraseRecording_4 : decode cX1_eraseRecording 4 = .ok (.iload_n 3, 1) := by decide +kernel
theorem dX1_eraseRecording_5 : decode cX1_eraseRecording 5 = .ok (.bipush 32, 2) := by decide +kernel
theorem dX1_eraseRecording_7 : decode cX1_eraseRecording 7 = .ok (.if_icmp .ge 33, 3) := by decide +kernel
theorem dX1_eraseRecording_10 : decode cX1_eraseRecording 10 = .ok (.aload_n 0, 1) := by decide +kernel
theorem dX1_eraseRecording_11 : decode cX1_eraseRecording 11 = .ok (.getfield 9, 3) := by decide +kernel
theorem dX1_eraseRecording_14 : decode cX1_eraseRecording 14 = .ok (.iload_n 3, 1) := by decide +kernel
theorem dX1_eraseRecording_15 : decode cX1_eraseRecording 15 = .ok (.invokestatic 62, 3) := by decide +kernel
theorem dX1_eraseRecording_18 : decode cX1_eraseRecording 18 = .ok (.iload_n 1, 1) := by decide +kernel
theorem dX1_eraseRecording_19 : decode cX1_eraseRecording 19 = .ok (.if_icmp .ne 15, 3) := by decide +kernel
theorem dX1_eraseRecording_22 : decode cX1_eraseRecording 22 = .ok (.aload_n 0, 1) := by decide +kernel
theorem dX1_eraseRecording_23 : decode cX1_eraseRecording 23 = .ok (.getfield 9, 3) := by decide +kernel
theorem dX1_eraseRecording_26 : decode cX1_eraseRecording 26 = .ok (.iload_n 3, 1) := by decide +kernel
theorem dX1_eraseRecording_27 : decode cX1_eraseRecording 27 = .ok (.iconst (-1), 1) := by decide +kernel
theorem dX1_eraseRecording_28 : decode cX1_eraseRecording 28 = .ok (.invokestatic 66, 3) := by decide +kernel
theorem dX1_eraseRecording_31 : decode cX1_eraseRecording 31 = .ok (.iinc 2 1, 3) := by decide +kernel
theorem dX1_eraseRecording_34 : decode cX1_eraseRecording 34 = .ok (.iinc 3 1, 3) := by decide +kernel
theorem dX1_eraseRecording_37 : decode cX1_eraseRecording 37 = .ok (.goto (-33), 3) := by decide +kernel
theorem dX1_eraseRecording_40 : decode cX1_eraseRecording 40 = .ok (.aload_n 0, 1) := by decide +kernel
theorem dX1_eraseRecording_41 : decode cX1_eraseRecording 41 = .ok (.invokevirtual 85, 3) := by decide +kernel
theorem dX1_eraseRecording_44 : decode cX1_eraseRecording 44 = .ok (.aload_n 0, 1) := by decide +kernel
theorem dX1_eraseRecording_45 : decode cX1_eraseRecording 45 = .ok (.iload_n 1, 1) := by decide +kernel
theorem dX1_eraseRecording_46 : decode cX1_eraseRecording 46 = .ok (.invokevirtual 81, 3) := by decide +kernel
theorem dX1_eraseRecording_49 : decode cX1_eraseRecording 49 = .ok (.iload_n 2, 1) := by decide +kernel
theorem dX1_eraseRecording_50 : decode cX1_eraseRecording 50 = .ok (.ireturn, 1) := by decide +kernel
theorem dX1_removeRecording_0 : decode cX1_removeRecording 0 = .ok (.iload_n 1, 1) := by decide +kernel
theorem dX1_removeRecording_1 : decode cX1_removeRecording 1 = .ok (.aload_n 0, 1) := by decide +kernel
theorem dX1_removeRecording_2 : decode cX1_removeRecording 2 = .ok (.invokevirtual 70, 3) := by decide +kernel
theorem dX1_removeRecording_5 : decode cX1_removeRecording 5 = .ok (.if_icmp .ne 8, 3) := by decide +kernel
theorem dX1_removeRecording_8 : decode cX1_removeRecording 8 = .ok (.aload_n 0, 1) := by decide +kernel
theorem dX1_removeRecording_9 : decode cX1_removeRecording 9 = .ok (.iconst 0, 1) := by decide +kernel
theorem dX1_removeRecording_10 : decode cX1_removeRecording 10 = .ok (.putfield 37, 3) := by decide +kernel
theorem dX1_removeRecording_13 : decode cX1_removeRecording 13 = .ok (.iload_n 1, 1) := by decide +kernel
theorem dX1_removeRecording_14 : decode cX1_removeRecording 14 = .ok (.istore_n 2, 1) := by decide +kernel
theorem dX1_removeRecording_15 : decode cX1_removeRecording 15 = .ok (.iload_n 2, 1) := by decide +kernel
theorem dX1_removeRecording_16 : decode cX1_removeRecording 16 = .ok (.iconst 1, 1) := by decide +kernel
theorem dX1_removeRecording_17 : decode cX1_removeRecording 17 = .ok (.iadd, 1) := by decide +kernel
theorem dX1_removeRecording_18 : decode cX1_removeRecording 18 = .ok (.aload_n 0, 1) := by decide +kernel
theorem dX1_removeRecording_19 : decode cX1_removeRecording 19 = .ok (.getfield 34, 3) := by decide +kernel
theorem dX1_removeRecording_22 : decode cX1_removeRecording 22 = .ok (.if_icmp .ge 45, 3) := by decide +kernel
theorem dX1_removeRecording_25 : decode cX1_removeRecording 25 = .ok (.aload_n 0, 1) := by decide +kernel
theorem dX1_removeRecording_26 : decode cX1_removeRecording 26 = .ok (.getfield 28, 3) := by decide +kernel
theorem dX1_removeRecording_29 : decode cX1_removeRecording 29 = .ok (.iload_n 2, 1) := by decide +kernel
theorem dX1_removeRecording_30 : decode cX1_removeRecording 30 = .ok (.aload_n 0, 1) := by decide +kernel
theorem dX1_removeRecording_31 : decode cX1_removeRecording 31 = .ok (.getfield 28, 3) := by decide +kernel
theorem dX1_removeRecording_34 : decode cX1_removeRecording 34 = .ok (.iload_n 2, 1) := by decide +kernel
theorem dX1_removeRecording_35 : decode cX1_removeRecording 35 = .ok (.iconst 1, 1) := by decide +kernel
theorem dX1_removeRecording_36 : decode cX1_removeRecording 36 = .ok (.iadd, 1) := by decide +kernel
theorem dX1_removeRecording_37 : decode cX1_removeRecording 37 = .ok (.invokestatic 62, 3) := by decide +kernel
theorem dX1_removeRecording_40 : decode cX1_removeRecording 40 = .ok (.invokestatic 66, 3) := by decide +kernel
theorem dX1_removeRecording_43 : decode cX1_removeRecording 43 = .ok (.aload_n 0, 1) := by decide +kernel
theorem dX1_removeRecording_44 : decode cX1_removeRecording 44 = .ok (.getfield 31, 3) := by decide +kernel
theorem dX1_removeRecording_47 : decode cX1_removeRecording 47 = .ok (.iload_n 2, 1) := by decide +kernel
theorem dX1_removeRecording_48 : decode cX1_removeRecording 48 = .ok (.aload_n 0, 1) := by decide +kernel
theorem dX1_removeRecording_49 : decode cX1_removeRecording 49 = .ok (.getfield 31, 3) := by decide +kernel
theorem dX1_removeRecording_52 : decode cX1_removeRecording 52 = .ok (.iload_n 2, 1) := by decide +kernel
theorem dX1_removeRecording_53 : decode cX1_removeRecording 53 = .ok (.iconst 1, 1) := by decide +kernel
theorem dX1_removeRecording_54 : decode cX1_removeRecording 54 = .ok (.iadd, 1) := by decide +kernel
theorem dX1_removeRecording_55 : decode cX1_removeRecording 55 = .ok (.invokestatic 62, 3) := by decide +kernel
theorem dX1_removeRecording_58 : decode cX1_removeRecording 58 = .ok (.invokestatic 66, 3) := by decide +kernel
theorem dX1_removeRecording_61 : decode cX1_removeRecording 61 = .ok (.iinc 2 1, 3) := by decide +kernel
theorem dX1_removeRecording_64 : decode cX1_removeRecording 64 = .ok (.goto (-49), 3) := by decide +kernel
theorem dX1_removeRecording_67 : decode cX1_removeRecording 67 = .ok (.aload_n 0, 1) := by decide +kernel
theorem dX1_removeRecording_68 : decode cX1_removeRecording 68 = .ok (.dup, 1) := by decide +kernel
theorem dX1_removeRecording_69 : decode cX1_removeRecording 69 = .ok (.getfield 34, 3) := by decide +kernel
theorem dX1_removeRecording_72 : decode cX1_removeRecording 72 = .ok (.iconst 1, 1) := by decide +kernel
theorem dX1_removeRecording_73 : decode cX1_removeRecording 73 = .ok (.isub, 1) := by decide +kernel
theorem dX1_removeRecording_74 : decode cX1_removeRecording 74 = .ok (.putfield 34, 3) := by decide +kernel
theorem dX1_removeRecording_77 : decode cX1_removeRecording 77 = .ok (.iconst 0, 1) := by decide +kernel
theorem dX1_removeRecording_78 : decode cX1_removeRecording 78 = .ok (.istore_n 2, 1) := by decide +kernel
theorem dX1_removeRecording_79 : decode cX1_removeRecording 79 = .ok (.iload_n 2, 1) := by decide +kernel
theorem dX1_removeRecording_80 : decode cX1_removeRecording 80 = .ok (.bipush 32, 2) := by decide +kernel
theorem dX1_removeRecording_82 : decode cX1_removeRecording 82 = .ok (.if_icmp .ge 34, 3) := by decide +kernel
theorem dX1_removeRecording_85 : decode cX1_removeRecording 85 = .ok (.aload_n 0, 1) := by decide +kernel
theorem dX1_removeRecording_86 : decode cX1_removeRecording 86 = .ok (.getfield 9, 3) := by decide +kernel
theorem dX1_removeRecording_89 : decode cX1_removeRecording 89 = .ok (.iload_n 2, 1) := by decide +kernel
theorem dX1_removeRecording_90 : decode cX1_removeRecording 90 = .ok (.invokestatic 62, 3) := by decide +kernel
theorem dX1_removeRecording_93 : decode cX1_removeRecording 93 = .ok (.istore_n 3, 1) := by decide +kernel
theorem dX1_removeRecording_94 : decode cX1_removeRecording 94 = .ok (.iload_n 3, 1) := by decide +kernel
theorem dX1_removeRecording_95 : decode cX1_removeRecording 95 = .ok (.iload_n 1, 1) := by decide +kernel
theorem dX1_removeRecording_96 : decode cX1_removeRecording 96 = .ok (.if_icmp .le 14, 3) := by decide +kernel
theorem dX1_removeRecording_99 : decode cX1_removeRecording 99 = .ok (.aload_n 0, 1) := by decide +kernel
theorem dX1_removeRecording_100 : decode cX1_removeRecording 100 = .ok (.getfield 9, 3) := by decide +kernel
theorem dX1_removeRecording_103 : decode cX1_removeRecording 103 = .ok (.iload_n 2, 1) := by decide +kernel
theorem dX1_removeRecording_104 : decode cX1_removeRecording 104 = .ok (.iload_n 3, 1) := by decide +kernel
theorem dX1_removeRecording_105 : decode cX1_removeRecording 105 = .ok (.iconst 1, 1) := by decide +kernel
theorem dX1_removeRecording_106 : decode cX1_removeRecording 106 = .ok (.isub, 1) := by decide +kernel
theorem dX1_removeRecording_107 : decode cX1_removeRecording 107 = .ok (.invokestatic 66, 3) := by decide +kernel
theorem dX1_removeRecording_110 : decode cX1_removeRecording 110 = .ok (.iinc 2 1, 3) := by decide +kernel
theorem dX1_removeRecording_113 : decode cX1_removeRecording 113 = .ok (.goto (-34), 3) := by decide +kernel
theorem dX1_removeRecording_116 : decode cX1_removeRecording 116 = .ok (.aload_n 0, 1) := by decide +kernel
theorem dX1_removeRecording_117 : decode cX1_removeRecording 117 = .ok (.getfield 50, 3) := by decide +kernel
theorem dX1_removeRecording_120 : decode cX1_removeRecording 120 = .ok (.iload_n 1, 1) := by decide +kernel
theorem dX1_removeRecording_121 : decode cX1_removeRecording 121 = .ok (.if_icmp .ne 16, 3) := by decide +kernel
theorem dX1_removeRecording_124 : decode cX1_removeRecording 124 = .ok (.aload_n 0, 1) := by decide +kernel
theorem dX1_removeRecording_125 : decode cX1_removeRecording 125 = .ok (.iconst (-1), 1) := by decide +kernel
theorem dX1_removeRecording_126 : decode cX1_removeRecording 126 = .ok (.putfield 50, 3) := by decide +kernel
theorem dX1_removeRecording_129 : decode cX1_removeRecording 129 = .ok (.aload_n 0, 1) := by decide +kernel
theorem dX1_removeRecording_130 : decode cX1_removeRecording 130 = .ok (.iconst (-1), 1) := by decide +kernel
theorem dX1_removeRecording_131 : decode cX1_removeRecording 131 = .ok (.putfield 53, 3) := by decide +kernel
theorem dX1_removeRecording_134 : decode cX1_removeRecording 134 = .ok (.goto 21, 3) := by decide +kernel
theorem dX1_removeRecording_137 : decode cX1_removeRecording 137 = .ok (.aload_n 0, 1) := by decide +kernel
theorem dX1_removeRecording_138 : decode cX1_removeRecording 138 = .ok (.getfield 50, 3) := by decide +kernel
theorem dX1_removeRecording_141 : decode cX1_removeRecording 141 = .ok (.iload_n 1, 1) := by decide +kernel
theorem dX1_removeRecording_142 : decode cX1_removeRecording 142 = .ok (.if_icmp .le 13, 3) := by decide +kernel
theorem dX1_removeRecording_145 : decode cX1_removeRecording 145 = .ok (.aload_n 0, 1) := by decide +kernel
theorem dX1_removeRecording_146 : decode cX1_removeRecording 146 = .ok (.dup, 1) := by decide +kernel
theorem dX1_removeRecording_147 : decode cX1_removeRecording 147 = .ok (.getfield 50, 3) := by decide +kernel
theorem dX1_removeRecording_150 : decode cX1_removeRecording 150 = .ok (.iconst 1, 1) := by decide +kernel
theorem dX1_removeRecording_151 : decode cX1_removeRecording 151 = .ok (.isub, 1) := by decide +kernel
theorem dX1_removeRecording_152 : decode cX1_removeRecording 152 = .ok (.putfield 50, 3) := by decide +kernel
theorem dX1_removeRecording_155 : decode cX1_removeRecording 155 = .ok (.return_, 1) := by decide +kernel
theorem dX1_dropFreeCells_0 : decode cX1_dropFreeCells 0 = .ok (.iconst 0, 1) := by decide +kernel
theorem dX1_dropFreeCells_1 : decode cX1_dropFreeCells 1 = .ok (.istore_n 1, 1) := by decide +kernel
theorem dX1_dropFreeCells_2 : decode cX1_dropFreeCells 2 = .ok (.iconst 0, 1) := by decide +kernel
theorem dX1_dropFreeCells_3 : decode cX1_dropFreeCells 3 = .ok (.istore_n 2, 1) := by decide +kernel
theorem dX1_dropFreeCells_4 : decode cX1_dropFreeCells 4 = .ok (.iload_n 2, 1) := by decide +kernel
theorem dX1_dropFreeCells_5 : decode cX1_dropFreeCells 5 = .ok (.aload_n 0, 1) := by decide +kernel
theorem dX1_dropFreeCells_6 : decode cX1_dropFreeCells 6 = .ok (.getfield 24, 3) := by decide +kernel
theorem dX1_dropFreeCells_9 : decode cX1_dropFreeCells 9 = .ok (.if_icmp .ge 42, 3) := by decide +kernel
theorem dX1_dropFreeCells_12 : decode cX1_dropFreeCells 12 = .ok (.aload_n 0, 1) := by decide +kernel
theorem dX1_dropFreeCells_13 : decode cX1_dropFreeCells 13 = .ok (.getfield 21, 3) := by decide +kernel
theorem dX1_dropFreeCells_16 : decode cX1_dropFreeCells 16 = .ok (.iload_n 2, 1) := by decide +kernel
theorem dX1_dropFreeCells_17 : decode cX1_dropFreeCells 17 = .ok (.invokestatic 62, 3) := by decide +kernel
theorem dX1_dropFreeCells_20 : decode cX1_dropFreeCells 20 = .ok (.istore_n 3, 1) := by decide +kernel
theorem dX1_dropFreeCells_21 : decode cX1_dropFreeCells 21 = .ok (.aload_n 0, 1) := by decide +kernel
theorem dX1_dropFreeCells_22 : decode cX1_dropFreeCells 22 = .ok (.getfield 9, 3) := by decide +kernel
theorem dX1_dropFreeCells_25 : decode cX1_dropFreeCells 25 = .ok (.iload_n 3, 1) := by decide +kernel
theorem dX1_dropFreeCells_26 : decode cX1_dropFreeCells 26 = .ok (.invokestatic 62, 3) := by decide +kernel
theorem dX1_dropFreeCells_29 : decode cX1_dropFreeCells 29 = .ok (.iconst (-1), 1) := by decide +kernel
theorem dX1_dropFreeCells_30 : decode cX1_dropFreeCells 30 = .ok (.if_icmp .eq 15, 3) := by decide +kernel
theorem dX1_dropFreeCells_33 : decode cX1_dropFreeCells 33 = .ok (.aload_n 0, 1) := by decide +kernel
theorem dX1_dropFreeCells_34 : decode cX1_dropFreeCells 34 = .ok (.getfield 21, 3) := by decide +kernel
theorem dX1_dropFreeCells_37 : decode cX1_dropFreeCells 37 = .ok (.iload_n 1, 1) := by decide +kernel
theorem dX1_dropFreeCells_38 : decode cX1_dropFreeCells 38 = .ok (.iload_n 3, 1) := by decide +kernel
theorem dX1_dropFreeCells_39 : decode cX1_dropFreeCells 39 = .ok (.invokestatic 66, 3) := by decide +kernel
theorem dX1_dropFreeCells_42 : decode cX1_dropFreeCells 42 = .ok (.iinc 1 1, 3) := by decide +kernel
theorem dX1_dropFreeCells_45 : decode cX1_dropFreeCells 45 = .ok (.iinc 2 1, 3) := by decide +kernel
theorem dX1_dropFreeCells_48 : decode cX1_dropFreeCells 48 = .ok (.goto (-44), 3) := by decide +kernel
theorem dX1_dropFreeCells_51 : decode cX1_dropFreeCells 51 = .ok (.aload_n 0, 1) := by decide +kernel
theorem dX1_dropFreeCells_52 : decode cX1_dropFreeCells 52 = .ok (.iload_n 1, 1) := by decide +kernel
theorem dX1_dropFreeCells_53 : decode cX1_dropFreeCells 53 = .ok (.putfield 24, 3) := by decide +kernel
theorem dX1_dropFreeCells_56 : decode cX1_dropFreeCells 56 = .ok (.return_, 1) := by decide +kernel
theorem dX1_cellFromHead_0 : decode cX1_cellFromHead 0 = .ok (.aload_n 0, 1) := by decide +kernel
theorem dX1_cellFromHead_1 : decode cX1_cellFromHead 1 = .ok (.getfield 41, 3) := by decide +kernel
theorem dX1_cellFromHead_4 : decode cX1_cellFromHead 4 = .ok (.iload_n 1, 1) := by decide +kernel
theorem dX1_cellFromHead_5 : decode cX1_cellFromHead 5 = .ok (.iadd, 1) := by decide +kernel
theorem dX1_cellFromHead_6 : decode cX1_cellFromHead 6 = .ok (.bipush 32, 2) := by decide +kernel
theorem dX1_cellFromHead_8 : decode cX1_cellFromHead 8 = .ok (.irem, 1) := by decide +kernel
theorem dX1_cellFromHead_9 : decode cX1_cellFromHead 9 = .ok (.ireturn, 1) := by decide +kernel
theorem dX1_isWritable_0 : decode cX1_isWritable 0 = .ok (.aload_n 0, 1) := by decide +kernel
theorem dX1_isWritable_1 : decode cX1_isWritable 1 = .ok (.getfield 9, 3) := by decide +kernel
theorem dX1_isWritable_4 : decode cX1_isWritable 4 = .ok (.iload_n 1, 1) := by decide +kernel
theorem dX1_isWritable_5 : decode cX1_isWritable 5 = .ok (.invokestatic 62, 3) := by decide +kernel
theorem dX1_isWritable_8 : decode cX1_isWritable 8 = .ok (.istore_n 2, 1) := by decide +kernel
theorem dX1_isWritable_9 : decode cX1_isWritable 9 = .ok (.iload_n 2, 1) := by decide +kernel
theorem dX1_isWritable_10 : decode cX1_isWritable 10 = .ok (.iconst (-1), 1) := by decide +kernel
theorem dX1_isWritable_11 : decode cX1_isWritable 11 = .ok (.if_icmp .eq 22, 3) := by decide +kernel
theorem dX1_isWritable_14 : decode cX1_isWritable 14 = .ok (.iload_n 2, 1) := by decide +kernel
theorem dX1_isWritable_15 : decode cX1_isWritable 15 = .ok (.aload_n 0, 1) := by decide +kernel
theorem dX1_isWritable_16 : decode cX1_isWritable 16 = .ok (.invokevirtual 70, 3) := by decide +kernel
theorem dX1_isWritable_19 : decode cX1_isWritable 19 = .ok (.if_icmp .eq 18, 3) := by decide +kernel
theorem dX1_isWritable_22 : decode cX1_isWritable 22 = .ok (.aload_n 0, 1) := by decide +kernel
theorem dX1_isWritable_23 : decode cX1_isWritable 23 = .ok (.getfield 28, 3) := by decide +kernel
theorem dX1_isWritable_26 : decode cX1_isWritable 26 = .ok (.iload_n 2, 1) := by decide +kernel
theorem dX1_isWritable_27 : decode cX1_isWritable 27 = .ok (.invokestatic 62, 3) := by decide +kernel
theorem dX1_isWritable_30 : decode cX1_isWritable 30 = .ok (.ifCond .ne 7, 3) := by decide +kernel
theorem dX1_isWritable_33 : decode cX1_isWritable 33 = .ok (.iconst 1, 1) := by decide +kernel
theorem dX1_isWritable_34 : decode cX1_isWritable 34 = .ok (.goto 4, 3) := by decide +kernel
theorem dX1_isWritable_37 : decode cX1_isWritable 37 = .ok (.iconst 0, 1) := by decide +kernel
theorem dX1_isWritable_38 : decode cX1_isWritable 38 = .ok (.ireturn, 1) := by decide +kernel
theorem dX1_writableCells_0 : decode cX1_writableCells 0 = .ok (.iconst 0, 1) := by decide +kernel
theorem dX1_writableCells_1 : decode cX1_writableCells 1 = .ok (.istore_n 1, 1) := by decide +kernel
theorem dX1_writableCells_2 : decode cX1_writableCells 2 = .ok (.iconst 0, 1) := by decide +kernel
theorem dX1_writableCells_3 : decode cX1_writableCells 3 = .ok (.istore_n 2, 1) := by decide +kernel
theorem dX1_writableCells_4 : decode cX1_writableCells 4 = .ok (.iload_n 2, 1) := by decide +kernel
theorem dX1_writableCells_5 : decode cX1_writableCells 5 = .ok (.bipush 32, 2) := by decide +kernel
theorem dX1_writableCells_7 : decode cX1_writableCells 7 = .ok (.if_icmp .ge 20, 3) := by decide +kernel
theorem dX1_writableCells_10 : decode cX1_writableCells 10 = .ok (.aload_n 0, 1) := by decide +kernel
theorem dX1_writableCells_11 : decode cX1_writableCells 11 = .ok (.iload_n 2, 1) := by decide +kernel
theorem dX1_writableCells_12 : decode cX1_writableCells 12 = .ok (.invokevirtual 88, 3) := by decide +kernel
theorem dX1_writableCells_15 : decode cX1_writableCells 15 = .ok (.ifCond .eq 6, 3) := by decide +kernel
theorem dX1_writableCells_18 : decode cX1_writableCells 18 = .ok (.iinc 1 1, 3) := by decide +kernel
theorem dX1_writableCells_21 : decode cX1_writableCells 21 = .ok (.iinc 2 1, 3) := by decide +kernel
theorem dX1_writableCells_24 : decode cX1_writableCells 24 = .ok (.goto (-20), 3) := by decide +kernel
theorem dX1_writableCells_27 : decode cX1_writableCells 27 = .ok (.iload_n 1, 1) := by decide +kernel
theorem dX1_writableCells_28 : decode cX1_writableCells 28 = .ok (.ireturn, 1) := by decide +kernel
theorem dX1_firstWritable_0 : decode cX1_firstWritable 0 = .ok (.iconst 0, 1) := by decide +kernel
theorem dX1_firstWritable_1 : decode cX1_firstWritable 1 = .ok (.istore_n 1, 1) := by decide +kernel
theorem dX1_firstWritable_2 : decode cX1_firstWritable 2 = .ok (.iload_n 1, 1) := by decide +kernel
theorem dX1_firstWritable_3 : decode cX1_firstWritable 3 = .ok (.bipush 32, 2) := by decide +kernel
theorem dX1_firstWritable_5 : decode cX1_firstWritable 5 = .ok (.if_icmp .ge 25, 3) := by decide +kernel
theorem dX1_firstWritable_8 : decode cX1_firstWritable 8 = .ok (.aload_n 0, 1) := by decide +kernel
theorem dX1_firstWritable_9 : decode cX1_firstWritable 9 = .ok (.iload_n 1, 1) := by decide +kernel
theorem dX1_firstWritable_10 : decode cX1_firstWritable 10 = .ok (.invokevirtual 92, 3) := by decide +kernel
theorem dX1_firstWritable_13 : decode cX1_firstWritable 13 = .ok (.istore_n 2, 1) := by decide +kernel
theorem dX1_firstWritable_14 : decode cX1_firstWritable 14 = .ok (.aload_n 0, 1) := by decide +kernel
theorem dX1_firstWritable_15 : decode cX1_firstWritable 15 = .ok (.iload_n 2, 1) := by decide +kernel
theorem dX1_firstWritable_16 : decode cX1_firstWritable 16 = .ok (.invokevirtual 88, 3) := by decide +kernel
theorem dX1_firstWritable_19 : decode cX1_firstWritable 19 = .ok (.ifCond .eq 5, 3) := by decide +kernel
theorem dX1_firstWritable_22 : decode cX1_firstWritable 22 = .ok (.iload_n 2, 1) := by decide +kernel
theorem dX1_firstWritable_23 : decode cX1_firstWritable 23 = .ok (.ireturn, 1) := by decide +kernel
theorem dX1_firstWritable_24 : decode cX1_firstWritable 24 = .ok (.iinc 1 1, 3) := by decide +kernel
theorem dX1_firstWritable_27 : decode cX1_firstWritable 27 = .ok (.goto (-25), 3) := by decide +kernel
theorem dX1_firstWritable_30 : decode cX1_firstWritable 30 = .ok (.iconst (-1), 1) := by decide +kernel
theorem dX1_firstWritable_31 : decode cX1_firstWritable 31 = .ok (.ireturn, 1) := by decide +kernel
theorem dX1_firstLoser_0 : decode cX1_firstLoser 0 = .ok (.iconst 0, 1) := by decide +kernel
theorem dX1_firstLoser_1 : decode cX1_firstLoser 1 = .ok (.istore_n 1, 1) := by decide +kernel
theorem dX1_firstLoser_2 : decode cX1_firstLoser 2 = .ok (.iload_n 1, 1) := by decide +kernel
theorem dX1_firstLoser_3 : decode cX1_firstLoser 3 = .ok (.bipush 32, 2) := by decide +kernel
theorem dX1_firstLoser_5 : decode cX1_firstLoser 5 = .ok (.if_icmp .ge 39, 3) := by decide +kernel
theorem dX1_firstLoser_8 : decode cX1_firstLoser 8 = .ok (.aload_n 0, 1) := by decide +kernel
theorem dX1_firstLoser_9 : decode cX1_firstLoser 9 = .ok (.iload_n 1, 1) := by decide +kernel
theorem dX1_firstLoser_10 : decode cX1_firstLoser 10 = .ok (.invokevirtual 92, 3) := by decide +kernel
theorem dX1_firstLoser_13 : decode cX1_firstLoser 13 = .ok (.istore_n 2, 1) := by decide +kernel
theorem dX1_firstLoser_14 : decode cX1_firstLoser 14 = .ok (.aload_n 0, 1) := by decide +kernel
theorem dX1_firstLoser_15 : decode cX1_firstLoser 15 = .ok (.getfield 9, 3) := by decide +kernel
theorem dX1_firstLoser_18 : decode cX1_firstLoser 18 = .ok (.iload_n 2, 1) := by decide +kernel
theorem dX1_firstLoser_19 : decode cX1_firstLoser 19 = .ok (.invokestatic 62, 3) := by decide +kernel
theorem dX1_firstLoser_22 : decode cX1_firstLoser 22 = .ok (.istore_n 3, 1) := by decide +kernel
theorem dX1_firstLoser_23 : decode cX1_firstLoser 23 = .ok (.iload_n 3, 1) := by decide +kernel
theorem dX1_firstLoser_24 : decode cX1_firstLoser 24 = .ok (.iconst (-1), 1) := by decide +kernel
theorem dX1_firstLoser_25 : decode cX1_firstLoser 25 = .ok (.if_icmp .eq 13, 3) := by decide +kernel
theorem dX1_firstLoser_28 : decode cX1_firstLoser 28 = .ok (.aload_n 0, 1) := by decide +kernel
theorem dX1_firstLoser_29 : decode cX1_firstLoser 29 = .ok (.iload_n 2, 1) := by decide +kernel
theorem dX1_firstLoser_30 : decode cX1_firstLoser 30 = .ok (.invokevirtual 88, 3) := by decide +kernel
theorem dX1_firstLoser_33 : decode cX1_firstLoser 33 = .ok (.ifCond .eq 5, 3) := by decide +kernel
theorem dX1_firstLoser_36 : decode cX1_firstLoser 36 = .ok (.iload_n 3, 1) := by decide +kernel
theorem dX1_firstLoser_37 : decode cX1_firstLoser 37 = .ok (.ireturn, 1) := by decide +kernel
theorem dX1_firstLoser_38 : decode cX1_firstLoser 38 = .ok (.iinc 1 1, 3) := by decide +kernel
theorem dX1_firstLoser_41 : decode cX1_firstLoser 41 = .ok (.goto (-39), 3) := by decide +kernel
theorem dX1_firstLoser_44 : decode cX1_firstLoser 44 = .ok (.iconst (-1), 1) := by decide +kernel
theorem dX1_firstLoser_45 : decode cX1_firstLoser 45 = .ok (.ireturn, 1) := by decide +kernel
theorem dX1_lossAfter_0 : decode cX1_lossAfter 0 = .ok (.iload_n 2, 1) := by decide +kernel
theorem dX1_lossAfter_1 : decode cX1_lossAfter 1 = .ok (.istore_n 3, 1) := by decide +kernel
theorem dX1_lossAfter_2 : decode cX1_lossAfter 2 = .ok (.iconst 0, 1) := by decide +kernel
theorem dX1_lossAfter_3 : decode cX1_lossAfter 3 = .ok (.istore 4, 2) := by decide +kernel
theorem dX1_lossAfter_5 : decode cX1_lossAfter 5 = .ok (.iconst 0, 1) := by decide +kernel
theorem dX1_lossAfter_6 : decode cX1_lossAfter 6 = .ok (.istore 5, 2) := by decide +kernel
theorem dX1_lossAfter_8 : decode cX1_lossAfter 8 = .ok (.iload 5, 2) := by decide +kernel
theorem dX1_lossAfter_10 : decode cX1_lossAfter 10 = .ok (.bipush 32, 2) := by decide +kernel
theorem dX1_lossAfter_12 : decode cX1_lossAfter 12 = .ok (.if_icmp .ge 49, 3) := by decide +kernel
theorem dX1_lossAfter_15 : decode cX1_lossAfter 15 = .ok (.iload_n 3, 1) := by decide +kernel
theorem dX1_lossAfter_16 : decode cX1_lossAfter 16 = .ok (.ifCond .le 45, 3) := by decide +kernel
theorem dX1_lossAfter_19 : decode cX1_lossAfter 19 = .ok (.aload_n 0, 1) := by decide +kernel
theorem dX1_lossAfter_20 : decode cX1_lossAfter 20 = .ok (.iload 5, 2) := by decide +kernel
theorem dX1_lossAfter_22 : decode cX1_lossAfter 22 = .ok (.invokevirtual 92, 3) := by decide +kernel
theorem dX1_lossAfter_25 : decode cX1_lossAfter 25 = .ok (.istore 6, 2) := by decide +kernel
theorem dX1_lossAfter_27 : decode cX1_lossAfter 27 = .ok (.aload_n 0, 1) := by decide +kernel
theorem dX1_lossAfter_28 : decode cX1_lossAfter 28 = .ok (.iload 6, 2) := by decide +kernel
theorem dX1_lossAfter_30 : decode cX1_lossAfter 30 = .ok (.invokevirtual 88, 3) := by decide +kernel
theorem dX1_lossAfter_33 : decode cX1_lossAfter 33 = .ok (.ifCond .eq 22, 3) := by decide +kernel
theorem dX1_lossAfter_36 : decode cX1_lossAfter 36 = .ok (.iinc 3 (-1), 3) := by decide +kernel
theorem dX1_lossAfter_39 : decode cX1_lossAfter 39 = .ok (.aload_n 0, 1) := by decide +kernel
theorem dX1_lossAfter_40 : decode cX1_lossAfter 40 = .ok (.getfield 9, 3) := by decide +kernel
theorem dX1_lossAfter_43 : decode cX1_lossAfter 43 = .ok (.iload 6, 2) := by decide +kernel
theorem dX1_lossAfter_45 : decode cX1_lossAfter 45 = .ok (.invokestatic 62, 3) := by decide +kernel
theorem dX1_lossAfter_48 : decode cX1_lossAfter 48 = .ok (.iload_n 1, 1) := by decide +kernel
theorem dX1_lossAfter_49 : decode cX1_lossAfter 49 = .ok (.if_icmp .ne 6, 3) := by decide +kernel
theorem dX1_lossAfter_52 : decode cX1_lossAfter 52 = .ok (.iinc 4 1, 3) := by decide +kernel
theorem dX1_lossAfter_55 : decode cX1_lossAfter 55 = .ok (.iinc 5 1, 3) := by decide +kernel
theorem dX1_lossAfter_58 : decode cX1_lossAfter 58 = .ok (.goto (-50), 3) := by decide +kernel
theorem dX1_lossAfter_61 : decode cX1_lossAfter 61 = .ok (.iload 4, 2) := by decide +kernel
theorem dX1_lossAfter_63 : decode cX1_lossAfter 63 = .ok (.ireturn, 1) := by decide +kernel
theorem dX1_maySpeak_0 : decode cX1_maySpeak 0 = .ok (.aload_n 0, 1) := by decide +kernel
theorem dX1_maySpeak_1 : decode cX1_maySpeak 1 = .ok (.getfield 37, 3) := by decide +kernel
theorem dX1_maySpeak_4 : decode cX1_maySpeak 4 = .ok (.ifCond .eq 15, 3) := by decide +kernel
theorem dX1_maySpeak_7 : decode cX1_maySpeak 7 = .ok (.aload_n 0, 1) := by decide +kernel
theorem dX1_maySpeak_8 : decode cX1_maySpeak 8 = .ok (.invokevirtual 95, 3) := by decide +kernel
theorem dX1_maySpeak_11 : decode cX1_maySpeak 11 = .ok (.iload_n 1, 1) := by decide +kernel
theorem dX1_maySpeak_12 : decode cX1_maySpeak 12 = .ok (.if_icmp .lt 7, 3) := by decide +kernel
theorem dX1_maySpeak_15 : decode cX1_maySpeak 15 = .ok (.iconst 1, 1) := by decide +kernel
theorem dX1_maySpeak_16 : decode cX1_maySpeak 16 = .ok (.goto 4, 3) := by decide +kernel
theorem dX1_maySpeak_19 : decode cX1_maySpeak 19 = .ok (.iconst 0, 1) := by decide +kernel
theorem dX1_maySpeak_20 : decode cX1_maySpeak 20 = .ok (.ireturn, 1) := by decide +kernel
theorem dX1_speakTimes_0 : decode cX1_speakTimes 0 = .ok (.iconst (-1), 1) := by decide +kernel
theorem dX1_speakTimes_1 : decode cX1_speakTimes 1 = .ok (.istore_n 3, 1) := by decide +kernel
theorem dX1_speakTimes_2 : decode cX1_speakTimes 2 = .ok (.iconst 0, 1) := by decide +kernel
theorem dX1_speakTimes_3 : decode cX1_speakTimes 3 = .ok (.istore 4, 2) := by decide +kernel
theorem dX1_speakTimes_5 : decode cX1_speakTimes 5 = .ok (.iload 4, 2) := by decide +kernel
theorem dX1_speakTimes_7 : decode cX1_speakTimes 7 = .ok (.iload_n 1, 1) := by decide +kernel
theorem dX1_speakTimes_8 : decode cX1_speakTimes 8 = .ok (.if_icmp .ge 32, 3) := by decide +kernel
theorem dX1_speakTimes_11 : decode cX1_speakTimes 11 = .ok (.aload_n 0, 1) := by decide +kernel
theorem dX1_speakTimes_12 : decode cX1_speakTimes 12 = .ok (.invokevirtual 98, 3) := by decide +kernel
theorem dX1_speakTimes_15 : decode cX1_speakTimes 15 = .ok (.istore_n 3, 1) := by decide +kernel
theorem dX1_speakTimes_16 : decode cX1_speakTimes 16 = .ok (.iload_n 3, 1) := by decide +kernel
theorem dX1_speakTimes_17 : decode cX1_speakTimes 17 = .ok (.iconst (-1), 1) := by decide +kernel
theorem dX1_speakTimes_18 : decode cX1_speakTimes 18 = .ok (.if_icmp .ne 5, 3) := by decide +kernel
theorem dX1_speakTimes_21 : decode cX1_speakTimes 21 = .ok (.iconst (-1), 1) := by decide +kernel
theorem dX1_speakTimes_22 : decode cX1_speakTimes 22 = .ok (.ireturn, 1) := by decide +kernel
theorem dX1_speakTimes_23 : decode cX1_speakTimes 23 = .ok (.aload_n 0, 1) := by decide +kernel
theorem dX1_speakTimes_24 : decode cX1_speakTimes 24 = .ok (.iload_n 3, 1) := by decide +kernel
theorem dX1_speakTimes_25 : decode cX1_speakTimes 25 = .ok (.invokevirtual 101, 3) := by decide +kernel
theorem dX1_speakTimes_28 : decode cX1_speakTimes 28 = .ok (.aload_n 0, 1) := by decide +kernel
theorem dX1_speakTimes_29 : decode cX1_speakTimes 29 = .ok (.iload_n 3, 1) := by decide +kernel
theorem dX1_speakTimes_30 : decode cX1_speakTimes 30 = .ok (.iload_n 2, 1) := by decide +kernel
theorem dX1_speakTimes_31 : decode cX1_speakTimes 31 = .ok (.invokevirtual 104, 3) := by decide +kernel
theorem dX1_speakTimes_34 : decode cX1_speakTimes 34 = .ok (.iinc 4 1, 3) := by decide +kernel
theorem dX1_speakTimes_37 : decode cX1_speakTimes 37 = .ok (.goto (-32), 3) := by decide +kernel
theorem dX1_speakTimes_40 : decode cX1_speakTimes 40 = .ok (.iload_n 3, 1) := by decide +kernel
theorem dX1_speakTimes_41 : decode cX1_speakTimes 41 = .ok (.ireturn, 1) := by decide +kernel
theorem dX1_loseCell_0 : decode cX1_loseCell 0 = .ok (.aload_n 0, 1) := by decide +kernel
theorem dX1_loseCell_1 : decode cX1_loseCell 1 = .ok (.getfield 9, 3) := by decide +kernel
theorem dX1_loseCell_4 : decode cX1_loseCell 4 = .ok (.iload_n 1, 1) := by decide +kernel
theorem dX1_loseCell_5 : decode cX1_loseCell 5 = .ok (.invokestatic 62, 3) := by decide +kernel
theorem dX1_loseCell_8 : decode cX1_loseCell 8 = .ok (.istore_n 2, 1) := by decide +kernel
theorem dX1_loseCell_9 : decode cX1_loseCell 9 = .ok (.iload_n 2, 1) := by decide +kernel
theorem dX1_loseCell_10 : decode cX1_loseCell 10 = .ok (.iconst (-1), 1) := by decide +kernel
theorem dX1_loseCell_11 : decode cX1_loseCell 11 = .ok (.if_icmp .ne 4, 3) := by decide +kernel
theorem dX1_loseCell_14 : decode cX1_loseCell 14 = .ok (.return_, 1) := by decide +kernel
theorem dX1_loseCell_15 : decode cX1_loseCell 15 = .ok (.aload_n 0, 1) := by decide +kernel
theorem dX1_loseCell_16 : decode cX1_loseCell 16 = .ok (.getfield 50, 3) := by decide +kernel
theorem dX1_loseCell_19 : decode cX1_loseCell 19 = .ok (.iload_n 2, 1) := by decide +kernel
theorem dX1_loseCell_20 : decode cX1_loseCell 20 = .ok (.if_icmp .ne 25, 3) := by decide +kernel
theorem dX1_loseCell_23 : decode cX1_loseCell 23 = .ok (.aload_n 0, 1) := by decide +kernel
theorem dX1_loseCell_24 : decode cX1_loseCell 24 = .ok (.iload_n 1, 1) := by decide +kernel
theorem dX1_loseCell_25 : decode cX1_loseCell 25 = .ok (.invokevirtual 108, 3) := by decide +kernel
theorem dX1_loseCell_28 : decode cX1_loseCell 28 = .ok (.aload_n 0, 1) := by decide +kernel
theorem dX1_loseCell_29 : decode cX1_loseCell 29 = .ok (.getfield 53, 3) := by decide +kernel
theorem dX1_loseCell_32 : decode cX1_loseCell 32 = .ok (.if_icmp .ge 13, 3) := by decide +kernel
theorem dX1_loseCell_35 : decode cX1_loseCell 35 = .ok (.aload_n 0, 1) := by decide +kernel
theorem dX1_loseCell_36 : decode cX1_loseCell 36 = .ok (.dup, 1) := by decide +kernel
theorem dX1_loseCell_37 : decode cX1_loseCell 37 = .ok (.getfield 53, 3) := by decide +kernel
theorem dX1_loseCell_40 : decode cX1_loseCell 40 = .ok (.iconst 1, 1) := by decide +kernel
theorem dX1_loseCell_41 : decode cX1_loseCell 41 = .ok (.isub, 1) := by decide +kernel
theorem dX1_loseCell_42 : decode cX1_loseCell 42 = .ok (.putfield 53, 3) := by decide +kernel
theorem dX1_loseCell_45 : decode cX1_loseCell 45 = .ok (.aload_n 0, 1) := by decide +kernel
theorem dX1_loseCell_46 : decode cX1_loseCell 46 = .ok (.getfield 9, 3) := by decide +kernel
theorem dX1_loseCell_49 : decode cX1_loseCell 49 = .ok (.iload_n 1, 1) := by decide +kernel
theorem dX1_loseCell_50 : decode cX1_loseCell 50 = .ok (.iconst (-1), 1) := by decide +kernel
theorem dX1_loseCell_51 : decode cX1_loseCell 51 = .ok (.invokestatic 66, 3) := by decide +kernel
theorem dX1_loseCell_54 : decode cX1_loseCell 54 = .ok (.aload_n 0, 1) := by decide +kernel
theorem dX1_loseCell_55 : decode cX1_loseCell 55 = .ok (.invokevirtual 85, 3) := by decide +kernel
theorem dX1_loseCell_58 : decode cX1_loseCell 58 = .ok (.aload_n 0, 1) := by decide +kernel
theorem dX1_loseCell_59 : decode cX1_loseCell 59 = .ok (.getfield 31, 3) := by decide +kernel
theorem dX1_loseCell_62 : decode cX1_loseCell 62 = .ok (.iload_n 2, 1) := by decide +kernel
theorem dX1_loseCell_63 : decode cX1_loseCell 63 = .ok (.aload_n 0, 1) := by decide +kernel
theorem dX1_loseCell_64 : decode cX1_loseCell 64 = .ok (.getfield 31, 3) := by decide +kernel
theorem dX1_loseCell_67 : decode cX1_loseCell 67 = .ok (.iload_n 2, 1) := by decide +kernel
theorem dX1_loseCell_68 : decode cX1_loseCell 68 = .ok (.invokestatic 62, 3) := by decide +kernel
theorem dX1_loseCell_71 : decode cX1_loseCell 71 = .ok (.iconst 1, 1) := by decide +kernel
theorem dX1_loseCell_72 : decode cX1_loseCell 72 = .ok (.iadd, 1) := by decide +kernel
theorem dX1_loseCell_73 : decode cX1_loseCell 73 = .ok (.invokestatic 66, 3) := by decide +kernel
theorem dX1_loseCell_76 : decode cX1_loseCell 76 = .ok (.aload_n 0, 1) := by decide +kernel
theorem dX1_loseCell_77 : decode cX1_loseCell 77 = .ok (.iload_n 2, 1) := by decide +kernel
theorem dX1_loseCell_78 : decode cX1_loseCell 78 = .ok (.invokevirtual 74, 3) := by decide +kernel
theorem dX1_loseCell_81 : decode cX1_loseCell 81 = .ok (.ifCond .ne 18, 3) := by decide +kernel
theorem dX1_loseCell_84 : decode cX1_loseCell 84 = .ok (.aload_n 0, 1) := by decide +kernel
theorem dX1_loseCell_85 : decode cX1_loseCell 85 = .ok (.dup, 1) := by decide +kernel
theorem dX1_loseCell_86 : decode cX1_loseCell 86 = .ok (.getfield 47, 3) := by decide +kernel
theorem dX1_loseCell_89 : decode cX1_loseCell 89 = .ok (.iconst 1, 1) := by decide +kernel
theorem dX1_loseCell_90 : decode cX1_loseCell 90 = .ok (.iadd, 1) := by decide +kernel
theorem dX1_loseCell_91 : decode cX1_loseCell 91 = .ok (.putfield 47, 3) := by decide +kernel
theorem dX1_loseCell_94 : decode cX1_loseCell 94 = .ok (.aload_n 0, 1) := by decide +kernel
theorem dX1_loseCell_95 : decode cX1_loseCell 95 = .ok (.iload_n 2, 1) := by decide +kernel
theorem dX1_loseCell_96 : decode cX1_loseCell 96 = .ok (.invokevirtual 81, 3) := by decide +kernel
theorem dX1_loseCell_99 : decode cX1_loseCell 99 = .ok (.return_, 1) := by decide +kernel
theorem dX1_cellsBefore_0 : decode cX1_cellsBefore 0 = .ok (.aload_n 0, 1) := by decide +kernel
theorem dX1_cellsBefore_1 : decode cX1_cellsBefore 1 = .ok (.getfield 9, 3) := by decide +kernel
theorem dX1_cellsBefore_4 : decode cX1_cellsBefore 4 = .ok (.iload_n 1, 1) := by decide +kernel
theorem dX1_cellsBefore_5 : decode cX1_cellsBefore 5 = .ok (.invokestatic 62, 3) := by decide +kernel
theorem dX1_cellsBefore_8 : decode cX1_cellsBefore 8 = .ok (.istore_n 2, 1) := by decide +kernel
theorem dX1_cellsBefore_9 : decode cX1_cellsBefore 9 = .ok (.iconst 0, 1) := by decide +kernel
theorem dX1_cellsBefore_10 : decode cX1_cellsBefore 10 = .ok (.istore_n 3, 1) := by decide +kernel
theorem dX1_cellsBefore_11 : decode cX1_cellsBefore 11 = .ok (.iconst 0, 1) := by decide +kernel
theorem dX1_cellsBefore_12 : decode cX1_cellsBefore 12 = .ok (.istore 4, 2) := by decide +kernel
theorem dX1_cellsBefore_14 : decode cX1_cellsBefore 14 = .ok (.iload 4, 2) := by decide +kernel
theorem dX1_cellsBefore_16 : decode cX1_cellsBefore 16 = .ok (.aload_n 0, 1) := by decide +kernel
theorem dX1_cellsBefore_17 : decode cX1_cellsBefore 17 = .ok (.getfield 24, 3) := by decide +kernel
theorem dX1_cellsBefore_20 : decode cX1_cellsBefore 20 = .ok (.if_icmp .ge 44, 3) := by decide +kernel
theorem dX1_cellsBefore_23 : decode cX1_cellsBefore 23 = .ok (.aload_n 0, 1) := by decide +kernel
theorem dX1_cellsBefore_24 : decode cX1_cellsBefore 24 = .ok (.getfield 21, 3) := by decide +kernel
theorem dX1_cellsBefore_27 : decode cX1_cellsBefore 27 = .ok (.iload 4, 2) := by decide +kernel
theorem dX1_cellsBefore_29 : decode cX1_cellsBefore 29 = .ok (.invokestatic 62, 3) := by decide +kernel
theorem dX1_cellsBefore_32 : decode cX1_cellsBefore 32 = .ok (.istore 5, 2) := by decide +kernel
theorem dX1_cellsBefore_34 : decode cX1_cellsBefore 34 = .ok (.iload 5, 2) := by decide +kernel
theorem dX1_cellsBefore_36 : decode cX1_cellsBefore 36 = .ok (.iload_n 1, 1) := by decide +kernel
theorem dX1_cellsBefore_37 : decode cX1_cellsBefore 37 = .ok (.if_icmp .ne 5, 3) := by decide +kernel
theorem dX1_cellsBefore_40 : decode cX1_cellsBefore 40 = .ok (.iload_n 3, 1) := by decide +kernel
theorem dX1_cellsBefore_41 : decode cX1_cellsBefore 41 = .ok (.ireturn, 1) := by decide +kernel
theorem dX1_cellsBefore_42 : decode cX1_cellsBefore 42 = .ok (.aload_n 0, 1) := by decide +kernel
theorem dX1_cellsBefore_43 : decode cX1_cellsBefore 43 = .ok (.getfield 9, 3) := by decide +kernel
theorem dX1_cellsBefore_46 : decode cX1_cellsBefore 46 = .ok (.iload 5, 2) := by decide +kernel
theorem dX1_cellsBefore_48 : decode cX1_cellsBefore 48 = .ok (.invokestatic 62, 3) := by decide +kernel
theorem dX1_cellsBefore_51 : decode cX1_cellsBefore 51 = .ok (.iload_n 2, 1) := by decide +kernel
theorem dX1_cellsBefore_52 : decode cX1_cellsBefore 52 = .ok (.if_icmp .ne 6, 3) := by decide +kernel
theorem dX1_cellsBefore_55 : decode cX1_cellsBefore 55 = .ok (.iinc 3 1, 3) := by decide +kernel
theorem dX1_cellsBefore_58 : decode cX1_cellsBefore 58 = .ok (.iinc 4 1, 3) := by decide +kernel
theorem dX1_cellsBefore_61 : decode cX1_cellsBefore 61 = .ok (.goto (-47), 3) := by decide +kernel
theorem dX1_cellsBefore_64 : decode cX1_cellsBefore 64 = .ok (.iload_n 3, 1) := by decide +kernel
theorem dX1_cellsBefore_65 : decode cX1_cellsBefore 65 = .ok (.ireturn, 1) := by decide +kernel
theorem dX1_writeCell_0 : decode cX1_writeCell 0 = .ok (.aload_n 0, 1) := by decide +kernel
theorem dX1_writeCell_1 : decode cX1_writeCell 1 = .ok (.getfield 9, 3) := by decide +kernel
theorem dX1_writeCell_4 : decode cX1_writeCell 4 = .ok (.iload_n 1, 1) := by decide +kernel
theorem dX1_writeCell_5 : decode cX1_writeCell 5 = .ok (.aload_n 0, 1) := by decide +kernel
theorem dX1_writeCell_6 : decode cX1_writeCell 6 = .ok (.invokevirtual 70, 3) := by decide +kernel
theorem dX1_writeCell_9 : decode cX1_writeCell 9 = .ok (.invokestatic 66, 3) := by decide +kernel
theorem dX1_writeCell_12 : decode cX1_writeCell 12 = .ok (.aload_n 0, 1) := by decide +kernel
theorem dX1_writeCell_13 : decode cX1_writeCell 13 = .ok (.getfield 15, 3) := by decide +kernel
theorem dX1_writeCell_16 : decode cX1_writeCell 16 = .ok (.iload_n 1, 1) := by decide +kernel
theorem dX1_writeCell_17 : decode cX1_writeCell 17 = .ok (.iload_n 2, 1) := by decide +kernel
theorem dX1_writeCell_18 : decode cX1_writeCell 18 = .ok (.invokestatic 66, 3) := by decide +kernel
theorem dX1_writeCell_21 : decode cX1_writeCell 21 = .ok (.aload_n 0, 1) := by decide +kernel
theorem dX1_writeCell_22 : decode cX1_writeCell 22 = .ok (.getfield 18, 3) := by decide +kernel
theorem dX1_writeCell_25 : decode cX1_writeCell 25 = .ok (.iload_n 1, 1) := by decide +kernel
theorem dX1_writeCell_26 : decode cX1_writeCell 26 = .ok (.iload_n 2, 1) := by decide +kernel
theorem dX1_writeCell_27 : decode cX1_writeCell 27 = .ok (.invokestatic 66, 3) := by decide +kernel
theorem dX1_writeCell_30 : decode cX1_writeCell 30 = .ok (.aload_n 0, 1) := by decide +kernel
theorem dX1_writeCell_31 : decode cX1_writeCell 31 = .ok (.getfield 21, 3) := by decide +kernel
theorem dX1_writeCell_34 : decode cX1_writeCell 34 = .ok (.aload_n 0, 1) := by decide +kernel
theorem dX1_writeCell_35 : decode cX1_writeCell 35 = .ok (.getfield 24, 3) := by decide +kernel
theorem dX1_writeCell_38 : decode cX1_writeCell 38 = .ok (.iload_n 1, 1) := by decide +kernel
theorem dX1_writeCell_39 : decode cX1_writeCell 39 = .ok (.invokestatic 66, 3) := by decide +kernel
theorem dX1_writeCell_42 : decode cX1_writeCell 42 = .ok (.aload_n 0, 1) := by decide +kernel
theorem dX1_writeCell_43 : decode cX1_writeCell 43 = .ok (.dup, 1) := by decide +kernel
theorem dX1_writeCell_44 : decode cX1_writeCell 44 = .ok (.getfield 24, 3) := by decide +kernel
theorem dX1_writeCell_47 : decode cX1_writeCell 47 = .ok (.iconst 1, 1) := by decide +kernel
theorem dX1_writeCell_48 : decode cX1_writeCell 48 = .ok (.iadd, 1) := by decide +kernel
theorem dX1_writeCell_49 : decode cX1_writeCell 49 = .ok (.putfield 24, 3) := by decide +kernel
theorem dX1_writeCell_52 : decode cX1_writeCell 52 = .ok (.aload_n 0, 1) := by decide +kernel
theorem dX1_writeCell_53 : decode cX1_writeCell 53 = .ok (.iload_n 1, 1) := by decide +kernel
theorem dX1_writeCell_54 : decode cX1_writeCell 54 = .ok (.iconst 1, 1) := by decide +kernel
theorem dX1_writeCell_55 : decode cX1_writeCell 55 = .ok (.iadd, 1) := by decide +kernel
theorem dX1_writeCell_56 : decode cX1_writeCell 56 = .ok (.bipush 32, 2) := by decide +kernel
theorem dX1_writeCell_58 : decode cX1_writeCell 58 = .ok (.irem, 1) := by decide +kernel
theorem dX1_writeCell_59 : decode cX1_writeCell 59 = .ok (.putfield 41, 3) := by decide +kernel
theorem dX1_writeCell_62 : decode cX1_writeCell 62 = .ok (.aload_n 0, 1) := by decide +kernel
theorem dX1_writeCell_63 : decode cX1_writeCell 63 = .ok (.dup, 1) := by decide +kernel
theorem dX1_writeCell_64 : decode cX1_writeCell 64 = .ok (.getfield 44, 3) := by decide +kernel
theorem dX1_writeCell_67 : decode cX1_writeCell 67 = .ok (.iconst 1, 1) := by decide +kernel
theorem dX1_writeCell_68 : decode cX1_writeCell 68 = .ok (.iadd, 1) := by decide +kernel
theorem dX1_writeCell_69 : decode cX1_writeCell 69 = .ok (.putfield 44, 3) := by decide +kernel
theorem dX1_writeCell_72 : decode cX1_writeCell 72 = .ok (.return_, 1) := by decide +kernel
theorem dX1_bringPlayer_0 : decode cX1_bringPlayer 0 = .ok (.aload_n 0, 1) := by decide +kernel
theorem dX1_bringPlayer_1 : decode cX1_bringPlayer 1 = .ok (.iload_n 1, 1) := by decide +kernel
theorem dX1_bringPlayer_2 : decode cX1_bringPlayer 2 = .ok (.putfield 50, 3) := by decide +kernel
theorem dX1_bringPlayer_5 : decode cX1_bringPlayer 5 = .ok (.aload_n 0, 1) := by decide +kernel
theorem dX1_bringPlayer_6 : decode cX1_bringPlayer 6 = .ok (.iconst 0, 1) := by decide +kernel
theorem dX1_bringPlayer_7 : decode cX1_bringPlayer 7 = .ok (.putfield 53, 3) := by decide +kernel
theorem dX1_bringPlayer_10 : decode cX1_bringPlayer 10 = .ok (.return_, 1) := by decide +kernel
theorem dX1_playCell_0 : decode cX1_playCell 0 = .ok (.aload_n 0, 1) := by decide +kernel
theorem dX1_playCell_1 : decode cX1_playCell 1 = .ok (.aload_n 0, 1) := by decide +kernel
theorem dX1_playCell_2 : decode cX1_playCell 2 = .ok (.getfield 50, 3) := by decide +kernel
theorem dX1_playCell_5 : decode cX1_playCell 5 = .ok (.aload_n 0, 1) := by decide +kernel
theorem dX1_playCell_6 : decode cX1_playCell 6 = .ok (.getfield 53, 3) := by decide +kernel
theorem dX1_playCell_9 : decode cX1_playCell 9 = .ok (.invokevirtual 111, 3) := by decide +kernel
theorem dX1_playCell_12 : decode cX1_playCell 12 = .ok (.istore_n 1, 1) := by decide +kernel
theorem dX1_playCell_13 : decode cX1_playCell 13 = .ok (.iload_n 1, 1) := by decide +kernel
theorem dX1_playCell_14 : decode cX1_playCell 14 = .ok (.iconst (-1), 1) := by decide +kernel
theorem dX1_playCell_15 : decode cX1_playCell 15 = .ok (.if_icmp .ne 5, 3) := by decide +kernel
theorem dX1_playCell_18 : decode cX1_playCell 18 = .ok (.iconst (-1), 1) := by decide +kernel
theorem dX1_playCell_19 : decode cX1_playCell 19 = .ok (.ireturn, 1) := by decide +kernel
theorem dX1_playCell_20 : decode cX1_playCell 20 = .ok (.aload_n 0, 1) := by decide +kernel
theorem dX1_playCell_21 : decode cX1_playCell 21 = .ok (.dup, 1) := by decide +kernel
theorem dX1_playCell_22 : decode cX1_playCell 22 = .ok (.getfield 53, 3) := by decide +kernel
theorem dX1_playCell_25 : decode cX1_playCell 25 = .ok (.iconst 1, 1) := by decide +kernel
theorem dX1_playCell_26 : decode cX1_playCell 26 = .ok (.iadd, 1) := by decide +kernel
theorem dX1_playCell_27 : decode cX1_playCell 27 = .ok (.putfield 53, 3) := by decide +kernel
theorem dX1_playCell_30 : decode cX1_playCell 30 = .ok (.aload_n 0, 1) := by decide +kernel
theorem dX1_playCell_31 : decode cX1_playCell 31 = .ok (.getfield 15, 3) := by decide +kernel
theorem dX1_playCell_34 : decode cX1_playCell 34 = .ok (.iload_n 1, 1) := by decide +kernel
theorem dX1_playCell_35 : decode cX1_playCell 35 = .ok (.invokestatic 62, 3) := by decide +kernel
theorem dX1_playCell_38 : decode cX1_playCell 38 = .ok (.ireturn, 1) := by decide +kernel
theorem dX1_stepBack_0 : decode cX1_stepBack 0 = .ok (.aload_n 0, 1) := by decide +kernel
theorem dX1_stepBack_1 : decode cX1_stepBack 1 = .ok (.iconst 0, 1) := by decide +kernel
theorem dX1_stepBack_2 : decode cX1_stepBack 2 = .ok (.aload_n 0, 1) := by decide +kernel
theorem dX1_stepBack_3 : decode cX1_stepBack 3 = .ok (.getfield 53, 3) := by decide +kernel
theorem dX1_stepBack_6 : decode cX1_stepBack 6 = .ok (.iload_n 1, 1) := by decide +kernel
theorem dX1_stepBack_7 : decode cX1_stepBack 7 = .ok (.isub, 1) := by decide +kernel
theorem dX1_stepBack_8 : decode cX1_stepBack 8 = .ok (.invokestatic 115, 3) := by decide +kernel
theorem dX1_stepBack_11 : decode cX1_stepBack 11 = .ok (.putfield 53, 3) := by decide +kernel
theorem dX1_stepBack_14 : decode cX1_stepBack 14 = .ok (.aload_n 0, 1) := by decide +kernel
theorem dX1_stepBack_15 : decode cX1_stepBack 15 = .ok (.getfield 53, 3) := by decide +kernel
theorem dX1_stepBack_18 : decode cX1_stepBack 18 = .ok (.ireturn, 1) := by decide +kernel
theorem dX1_correctedCells_0 : decode cX1_correctedCells 0 = .ok (.iconst 0, 1) := by decide +kernel
theorem dX1_correctedCells_1 : decode cX1_correctedCells 1 = .ok (.istore_n 1, 1) := by decide +kernel
theorem dX1_correctedCells_2 : decode cX1_correctedCells 2 = .ok (.iconst 0, 1) := by decide +kernel
theorem dX1_correctedCells_3 : decode cX1_correctedCells 3 = .ok (.istore_n 2, 1) := by decide +kernel
theorem dX1_correctedCells_4 : decode cX1_correctedCells 4 = .ok (.iload_n 2, 1) := by decide +kernel
theorem dX1_correctedCells_5 : decode cX1_correctedCells 5 = .ok (.bipush 32, 2) := by decide +kernel
theorem dX1_correctedCells_7 : decode cX1_correctedCells 7 = .ok (.if_icmp .ge 43, 3) := by decide +kernel
theorem dX1_correctedCells_10 : decode cX1_correctedCells 10 = .ok (.aload_n 0, 1) := by decide +kernel
theorem dX1_correctedCells_11 : decode cX1_correctedCells 11 = .ok (.getfield 9, 3) := by decide +kernel
theorem dX1_correctedCells_14 : decode cX1_correctedCells 14 = .ok (.iload_n 2, 1) := by decide +kernel
theorem dX1_correctedCells_15 : decode cX1_correctedCells 15 = .ok (.invokestatic 62, 3) := by decide +kernel
theorem dX1_correctedCells_18 : decode cX1_correctedCells 18 = .ok (.iconst (-1), 1) := by decide +kernel
theorem dX1_correctedCells_19 : decode cX1_correctedCells 19 = .ok (.if_icmp .eq 25, 3) := by decide +kernel
theorem dX1_correctedCells_22 : decode cX1_correctedCells 22 = .ok (.aload_n 0, 1) := by decide +kernel
theorem dX1_correctedCells_23 : decode cX1_correctedCells 23 = .ok (.getfield 15, 3) := by decide +kernel
theorem dX1_correctedCells_26 : decode cX1_correctedCells 26 = .ok (.iload_n 2, 1) := by decide +kernel
theorem dX1_correctedCells_27 : decode cX1_correctedCells 27 = .ok (.invokestatic 62, 3) := by decide +kernel
theorem dX1_correctedCells_30 : decode cX1_correctedCells 30 = .ok (.aload_n 0, 1) := by decide +kernel
theorem dX1_correctedCells_31 : decode cX1_correctedCells 31 = .ok (.getfield 18, 3) := by decide +kernel
theorem dX1_correctedCells_34 : decode cX1_correctedCells 34 = .ok (.iload_n 2, 1) := by decide +kernel
theorem dX1_correctedCells_35 : decode cX1_correctedCells 35 = .ok (.invokestatic 62, 3) := by decide +kernel
theorem dX1_correctedCells_38 : decode cX1_correctedCells 38 = .ok (.if_icmp .eq 6, 3) := by decide +kernel
theorem dX1_correctedCells_41 : decode cX1_correctedCells 41 = .ok (.iinc 1 1, 3) := by decide +kernel
theorem dX1_correctedCells_44 : decode cX1_correctedCells 44 = .ok (.iinc 2 1, 3) := by decide +kernel
theorem dX1_correctedCells_47 : decode cX1_correctedCells 47 = .ok (.goto (-43), 3) := by decide +kernel
theorem dX1_correctedCells_50 : decode cX1_correctedCells 50 = .ok (.iload_n 1, 1) := by decide +kernel
theorem dX1_correctedCells_51 : decode cX1_correctedCells 51 = .ok (.ireturn, 1) := by decide +kernel
