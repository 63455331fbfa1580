theorem dX3_usedShare_14 : decode cX3_usedShare 14 = .ok (.ldc2_w 95, 3) := by decide +kernel
theorem dX3_usedShare_17 : decode cX3_usedShare 17 = .ok (.ddiv, 1) := by decide +kernel
theorem dX3_usedShare_18 : decode cX3_usedShare 18 = .ok (.dreturn, 1) := by decide +kernel
theorem dX3_go_0 : decode cX3_go 0 = .ok (.aload_n 0, 1) := by decide +kernel
theorem dX3_go_1 : decode cX3_go 1 = .ok (.aload_n 0, 1) := by decide +kernel
theorem dX3_go_2 : decode cX3_go 2 = .ok (.iload_n 1, 1) := by decide +kernel
theorem dX3_go_3 : decode cX3_go 3 = .ok (.invokevirtual 82, 3) := by decide +kernel
theorem dX3_go_6 : decode cX3_go 6 = .ok (.ifCond .eq 7, 3) := by decide +kernel
theorem dX3_go_9 : decode cX3_go 9 = .ok (.iconst 0, 1) := by decide +kernel
theorem dX3_go_10 : decode cX3_go 10 = .ok (.goto 4, 3) := by decide +kernel
theorem dX3_go_13 : decode cX3_go 13 = .ok (.iconst 1, 1) := by decide +kernel
theorem dX3_go_14 : decode cX3_go 14 = .ok (.invokevirtual 64, 3) := by decide +kernel
theorem dX3_go_17 : decode cX3_go 17 = .ok (.ifCond .ne 5, 3) := by decide +kernel
theorem dX3_go_20 : decode cX3_go 20 = .ok (.iconst 0, 1) := by decide +kernel
theorem dX3_go_21 : decode cX3_go 21 = .ok (.ireturn, 1) := by decide +kernel
theorem dX3_go_22 : decode cX3_go 22 = .ok (.aload_n 0, 1) := by decide +kernel
theorem dX3_go_23 : decode cX3_go 23 = .ok (.invokevirtual 67, 3) := by decide +kernel
theorem dX3_go_26 : decode cX3_go 26 = .ok (.aload_n 0, 1) := by decide +kernel
theorem dX3_go_27 : decode cX3_go 27 = .ok (.iload_n 1, 1) := by decide +kernel
theorem dX3_go_28 : decode cX3_go 28 = .ok (.invokevirtual 97, 3) := by decide +kernel
theorem dX3_go_31 : decode cX3_go 31 = .ok (.ireturn, 1) := by decide +kernel
theorem dX3_play_0 : decode cX3_play 0 = .ok (.aload_n 0, 1) := by decide +kernel
theorem dX3_play_1 : decode cX3_play 1 = .ok (.aload_n 0, 1) := by decide +kernel
theorem dX3_play_2 : decode cX3_play 2 = .ok (.getfield 7, 3) := by decide +kernel
theorem dX3_play_5 : decode cX3_play 5 = .ok (.iconst 5, 1) := by decide +kernel
theorem dX3_play_6 : decode cX3_play 6 = .ok (.iaload, 1) := by decide +kernel
theorem dX3_play_7 : decode cX3_play 7 = .ok (.iconst (-1), 1) := by decide +kernel
theorem dX3_play_8 : decode cX3_play 8 = .ok (.if_icmp .ne 7, 3) := by decide +kernel
theorem dX3_play_11 : decode cX3_play 11 = .ok (.iconst 1, 1) := by decide +kernel
theorem dX3_play_12 : decode cX3_play 12 = .ok (.goto 4, 3) := by decide +kernel
theorem dX3_play_15 : decode cX3_play 15 = .ok (.iconst 0, 1) := by decide +kernel
theorem dX3_play_16 : decode cX3_play 16 = .ok (.invokevirtual 64, 3) := by decide +kernel
theorem dX3_play_19 : decode cX3_play 19 = .ok (.ifCond .ne 5, 3) := by decide +kernel
theorem dX3_play_22 : decode cX3_play 22 = .ok (.iconst 0, 1) := by decide +kernel
theorem dX3_play_23 : decode cX3_play 23 = .ok (.ireturn, 1) := by decide +kernel
theorem dX3_play_24 : decode cX3_play 24 = .ok (.aload_n 0, 1) := by decide +kernel
theorem dX3_play_25 : decode cX3_play 25 = .ok (.invokevirtual 67, 3) := by decide +kernel
theorem dX3_play_28 : decode cX3_play 28 = .ok (.aload_n 0, 1) := by decide +kernel
theorem dX3_play_29 : decode cX3_play 29 = .ok (.invokevirtual 100, 3) := by decide +kernel
theorem dX3_play_32 : decode cX3_play 32 = .ok (.ireturn, 1) := by decide +kernel
theorem dX3_back_0 : decode cX3_back 0 = .ok (.aload_n 0, 1) := by decide +kernel
theorem dX3_back_1 : decode cX3_back 1 = .ok (.iload_n 1, 1) := by decide +kernel
theorem dX3_back_2 : decode cX3_back 2 = .ok (.iconst 1, 1) := by decide +kernel
theorem dX3_back_3 : decode cX3_back 3 = .ok (.bipush 9, 2) := by decide +kernel
theorem dX3_back_5 : decode cX3_back 5 = .ok (.invokestatic 20, 3) := by decide +kernel
theorem dX3_back_8 : decode cX3_back 8 = .ok (.ifCond .ne 7, 3) := by decide +kernel
theorem dX3_back_11 : decode cX3_back 11 = .ok (.iconst 1, 1) := by decide +kernel
theorem dX3_back_12 : decode cX3_back 12 = .ok (.goto 18, 3) := by decide +kernel
theorem dX3_back_15 : decode cX3_back 15 = .ok (.aload_n 0, 1) := by decide +kernel
theorem dX3_back_16 : decode cX3_back 16 = .ok (.getfield 7, 3) := by decide +kernel
theorem dX3_back_19 : decode cX3_back 19 = .ok (.iconst 5, 1) := by decide +kernel
theorem dX3_back_20 : decode cX3_back 20 = .ok (.iaload, 1) := by decide +kernel
theorem dX3_back_21 : decode cX3_back 21 = .ok (.iconst (-1), 1) := by decide +kernel
theorem dX3_back_22 : decode cX3_back 22 = .ok (.if_icmp .ne 7, 3) := by decide +kernel
theorem dX3_back_25 : decode cX3_back 25 = .ok (.iconst 2, 1) := by decide +kernel
theorem dX3_back_26 : decode cX3_back 26 = .ok (.goto 4, 3) := by decide +kernel
theorem dX3_back_29 : decode cX3_back 29 = .ok (.iconst 0, 1) := by decide +kernel
theorem dX3_back_30 : decode cX3_back 30 = .ok (.invokevirtual 64, 3) := by decide +kernel
theorem dX3_back_33 : decode cX3_back 33 = .ok (.ifCond .ne 5, 3) := by decide +kernel
theorem dX3_back_36 : decode cX3_back 36 = .ok (.iconst 0, 1) := by decide +kernel
theorem dX3_back_37 : decode cX3_back 37 = .ok (.ireturn, 1) := by decide +kernel
theorem dX3_back_38 : decode cX3_back 38 = .ok (.aload_n 0, 1) := by decide +kernel
theorem dX3_back_39 : decode cX3_back 39 = .ok (.invokevirtual 67, 3) := by decide +kernel
theorem dX3_back_42 : decode cX3_back 42 = .ok (.aload_n 0, 1) := by decide +kernel
theorem dX3_back_43 : decode cX3_back 43 = .ok (.iload_n 1, 1) := by decide +kernel
theorem dX3_back_44 : decode cX3_back 44 = .ok (.invokevirtual 103, 3) := by decide +kernel
theorem dX3_back_47 : decode cX3_back 47 = .ok (.ireturn, 1) := by decide +kernel
theorem dX3_playing_0 : decode cX3_playing 0 = .ok (.aload_n 0, 1) := by decide +kernel
theorem dX3_playing_1 : decode cX3_playing 1 = .ok (.aload_n 0, 1) := by decide +kernel
theorem dX3_playing_2 : decode cX3_playing 2 = .ok (.getfield 7, 3) := by decide +kernel
theorem dX3_playing_5 : decode cX3_playing 5 = .ok (.iconst 5, 1) := by decide +kernel
theorem dX3_playing_6 : decode cX3_playing 6 = .ok (.iaload, 1) := by decide +kernel
theorem dX3_playing_7 : decode cX3_playing 7 = .ok (.invokevirtual 88, 3) := by decide +kernel
theorem dX3_playing_10 : decode cX3_playing 10 = .ok (.ireturn, 1) := by decide +kernel
theorem dX3_place_0 : decode cX3_place 0 = .ok (.aload_n 0, 1) := by decide +kernel
theorem dX3_place_1 : decode cX3_place 1 = .ok (.aload_n 0, 1) := by decide +kernel
theorem dX3_place_2 : decode cX3_place 2 = .ok (.getfield 7, 3) := by decide +kernel
theorem dX3_place_5 : decode cX3_place 5 = .ok (.bipush 6, 2) := by decide +kernel
theorem dX3_place_7 : decode cX3_place 7 = .ok (.iaload, 1) := by decide +kernel
theorem dX3_place_8 : decode cX3_place 8 = .ok (.invokevirtual 88, 3) := by decide +kernel
theorem dX3_place_11 : decode cX3_place 11 = .ok (.ireturn, 1) := by decide +kernel
theorem dX3_correct_0 : decode cX3_correct 0 = .ok (.aload_n 0, 1) := by decide +kernel
theorem dX3_correct_1 : decode cX3_correct 1 = .ok (.iload_n 1, 1) := by decide +kernel
theorem dX3_correct_2 : decode cX3_correct 2 = .ok (.invokevirtual 82, 3) := by decide +kernel
theorem dX3_correct_5 : decode cX3_correct 5 = .ok (.ifCond .eq 16, 3) := by decide +kernel
theorem dX3_correct_8 : decode cX3_correct 8 = .ok (.iload_n 2, 1) := by decide +kernel
theorem dX3_correct_9 : decode cX3_correct 9 = .ok (.ifCond .lt 12, 3) := by decide +kernel
theorem dX3_correct_12 : decode cX3_correct 12 = .ok (.aload_n 0, 1) := by decide +kernel
theorem dX3_correct_13 : decode cX3_correct 13 = .ok (.iload_n 1, 1) := by decide +kernel
theorem dX3_correct_14 : decode cX3_correct 14 = .ok (.iload_n 2, 1) := by decide +kernel
theorem dX3_correct_15 : decode cX3_correct 15 = .ok (.invokevirtual 49, 3) := by decide +kernel
theorem dX3_correct_18 : decode cX3_correct 18 = .ok (.goto 4, 3) := by decide +kernel
theorem dX3_correct_21 : decode cX3_correct 21 = .ok (.iconst (-1), 1) := by decide +kernel
theorem dX3_correct_22 : decode cX3_correct 22 = .ok (.istore 4, 2) := by decide +kernel
theorem dX3_correct_24 : decode cX3_correct 24 = .ok (.aload_n 0, 1) := by decide +kernel
theorem dX3_correct_25 : decode cX3_correct 25 = .ok (.iload 4, 2) := by decide +kernel
theorem dX3_correct_27 : decode cX3_correct 27 = .ok (.iconst (-1), 1) := by decide +kernel
theorem dX3_correct_28 : decode cX3_correct 28 = .ok (.if_icmp .ne 7, 3) := by decide +kernel
theorem dX3_correct_31 : decode cX3_correct 31 = .ok (.iconst 1, 1) := by decide +kernel
theorem dX3_correct_32 : decode cX3_correct 32 = .ok (.goto 32, 3) := by decide +kernel
theorem dX3_correct_35 : decode cX3_correct 35 = .ok (.iload_n 3, 1) := by decide +kernel
theorem dX3_correct_36 : decode cX3_correct 36 = .ok (.invokestatic 73, 3) := by decide +kernel
theorem dX3_correct_39 : decode cX3_correct 39 = .ok (.ifCond .ne 7, 3) := by decide +kernel
theorem dX3_correct_42 : decode cX3_correct 42 = .ok (.iconst 2, 1) := by decide +kernel
theorem dX3_correct_43 : decode cX3_correct 43 = .ok (.goto 21, 3) := by decide +kernel
theorem dX3_correct_46 : decode cX3_correct 46 = .ok (.aload_n 0, 1) := by decide +kernel
theorem dX3_correct_47 : decode cX3_correct 47 = .ok (.getfield 7, 3) := by decide +kernel
theorem dX3_correct_50 : decode cX3_correct 50 = .ok (.bipush 7, 2) := by decide +kernel
theorem dX3_correct_52 : decode cX3_correct 52 = .ok (.iload_n 1, 1) := by decide +kernel
theorem dX3_correct_53 : decode cX3_correct 53 = .ok (.iadd, 1) := by decide +kernel
theorem dX3_correct_54 : decode cX3_correct 54 = .ok (.iaload, 1) := by decide +kernel
theorem dX3_correct_55 : decode cX3_correct 55 = .ok (.iconst 1, 1) := by decide +kernel
theorem dX3_correct_56 : decode cX3_correct 56 = .ok (.if_icmp .ne 7, 3) := by decide +kernel
theorem dX3_correct_59 : decode cX3_correct 59 = .ok (.iconst 3, 1) := by decide +kernel
theorem dX3_correct_60 : decode cX3_correct 60 = .ok (.goto 4, 3) := by decide +kernel
theorem dX3_correct_63 : decode cX3_correct 63 = .ok (.iconst 0, 1) := by decide +kernel
theorem dX3_correct_64 : decode cX3_correct 64 = .ok (.invokevirtual 64, 3) := by decide +kernel
theorem dX3_correct_67 : decode cX3_correct 67 = .ok (.ifCond .ne 5, 3) := by decide +kernel
theorem dX3_correct_70 : decode cX3_correct 70 = .ok (.iconst 0, 1) := by decide +kernel
theorem dX3_correct_71 : decode cX3_correct 71 = .ok (.ireturn, 1) := by decide +kernel
theorem dX3_correct_72 : decode cX3_correct 72 = .ok (.aload_n 0, 1) := by decide +kernel
theorem dX3_correct_73 : decode cX3_correct 73 = .ok (.invokevirtual 67, 3) := by decide +kernel
theorem dX3_correct_76 : decode cX3_correct 76 = .ok (.aload_n 0, 1) := by decide +kernel
theorem dX3_correct_77 : decode cX3_correct 77 = .ok (.getfield 7, 3) := by decide +kernel
theorem dX3_correct_80 : decode cX3_correct 80 = .ok (.bipush 59, 2) := by decide +kernel
theorem dX3_correct_82 : decode cX3_correct 82 = .ok (.iload 4, 2) := by decide +kernel
theorem dX3_correct_84 : decode cX3_correct 84 = .ok (.iadd, 1) := by decide +kernel
theorem dX3_correct_85 : decode cX3_correct 85 = .ok (.iaload, 1) := by decide +kernel
theorem dX3_correct_86 : decode cX3_correct 86 = .ok (.istore 5, 2) := by decide +kernel
theorem dX3_correct_88 : decode cX3_correct 88 = .ok (.aload_n 0, 1) := by decide +kernel
theorem dX3_correct_89 : decode cX3_correct 89 = .ok (.getfield 7, 3) := by decide +kernel
theorem dX3_correct_92 : decode cX3_correct 92 = .ok (.bipush 59, 2) := by decide +kernel
theorem dX3_correct_94 : decode cX3_correct 94 = .ok (.iload 4, 2) := by decide +kernel
theorem dX3_correct_96 : decode cX3_correct 96 = .ok (.iadd, 1) := by decide +kernel
theorem dX3_correct_97 : decode cX3_correct 97 = .ok (.iload_n 3, 1) := by decide +kernel
theorem dX3_correct_98 : decode cX3_correct 98 = .ok (.iastore, 1) := by decide +kernel
theorem dX3_correct_99 : decode cX3_correct 99 = .ok (.iload 5, 2) := by decide +kernel
theorem dX3_correct_101 : decode cX3_correct 101 = .ok (.ireturn, 1) := by decide +kernel
theorem dX3_carbon_0 : decode cX3_carbon 0 = .ok (.aload_n 0, 1) := by decide +kernel
theorem dX3_carbon_1 : decode cX3_carbon 1 = .ok (.iload_n 1, 1) := by decide +kernel
theorem dX3_carbon_2 : decode cX3_carbon 2 = .ok (.iload_n 2, 1) := by decide +kernel
theorem dX3_carbon_3 : decode cX3_carbon 3 = .ok (.bipush 91, 2) := by decide +kernel
theorem dX3_carbon_5 : decode cX3_carbon 5 = .ok (.invokevirtual 91, 3) := by decide +kernel
theorem dX3_carbon_8 : decode cX3_carbon 8 = .ok (.ireturn, 1) := by decide +kernel
theorem dX3_correctedCells_0 : decode cX3_correctedCells 0 = .ok (.iconst 0, 1) := by decide +kernel
theorem dX3_correctedCells_1 : decode cX3_correctedCells 1 = .ok (.istore_n 1, 1) := by decide +kernel
theorem dX3_correctedCells_2 : decode cX3_correctedCells 2 = .ok (.iconst 0, 1) := by decide +kernel
theorem dX3_correctedCells_3 : decode cX3_correctedCells 3 = .ok (.istore_n 2, 1) := by decide +kernel
theorem dX3_correctedCells_4 : decode cX3_correctedCells 4 = .ok (.iload_n 2, 1) := by decide +kernel
theorem dX3_correctedCells_5 : decode cX3_correctedCells 5 = .ok (.bipush 32, 2) := by decide +kernel
theorem dX3_correctedCells_7 : decode cX3_correctedCells 7 = .ok (.if_icmp .ge 51, 3) := by decide +kernel
theorem dX3_correctedCells_10 : decode cX3_correctedCells 10 = .ok (.iload_n 1, 1) := by decide +kernel
theorem dX3_correctedCells_11 : decode cX3_correctedCells 11 = .ok (.aload_n 0, 1) := by decide +kernel
theorem dX3_correctedCells_12 : decode cX3_correctedCells 12 = .ok (.getfield 7, 3) := by decide +kernel
theorem dX3_correctedCells_15 : decode cX3_correctedCells 15 = .ok (.bipush 27, 2) := by decide +kernel
theorem dX3_correctedCells_17 : decode cX3_correctedCells 17 = .ok (.iload_n 2, 1) := by decide +kernel
theorem dX3_correctedCells_18 : decode cX3_correctedCells 18 = .ok (.iadd, 1) := by decide +kernel
theorem dX3_correctedCells_19 : decode cX3_correctedCells 19 = .ok (.iaload, 1) := by decide +kernel
theorem dX3_correctedCells_20 : decode cX3_correctedCells 20 = .ok (.iconst (-1), 1) := by decide +kernel
theorem dX3_correctedCells_21 : decode cX3_correctedCells 21 = .ok (.if_icmp .eq 28, 3) := by decide +kernel
theorem dX3_correctedCells_24 : decode cX3_correctedCells 24 = .ok (.aload_n 0, 1) := by decide +kernel
theorem dX3_correctedCells_25 : decode cX3_correctedCells 25 = .ok (.getfield 7, 3) := by decide +kernel
theorem dX3_correctedCells_28 : decode cX3_correctedCells 28 = .ok (.bipush 59, 2) := by decide +kernel
theorem dX3_correctedCells_30 : decode cX3_correctedCells 30 = .ok (.iload_n 2, 1) := by decide +kernel
theorem dX3_correctedCells_31 : decode cX3_correctedCells 31 = .ok (.iadd, 1) := by decide +kernel
theorem dX3_correctedCells_32 : decode cX3_correctedCells 32 = .ok (.iaload, 1) := by decide +kernel
theorem dX3_correctedCells_33 : decode cX3_correctedCells 33 = .ok (.aload_n 0, 1) := by decide +kernel
theorem dX3_correctedCells_34 : decode cX3_correctedCells 34 = .ok (.getfield 7, 3) := by decide +kernel
theorem dX3_correctedCells_37 : decode cX3_correctedCells 37 = .ok (.bipush 91, 2) := by decide +kernel
theorem dX3_correctedCells_39 : decode cX3_correctedCells 39 = .ok (.iload_n 2, 1) := by decide +kernel
theorem dX3_correctedCells_40 : decode cX3_correctedCells 40 = .ok (.iadd, 1) := by decide +kernel
theorem dX3_correctedCells_41 : decode cX3_correctedCells 41 = .ok (.iaload, 1) := by decide +kernel
theorem dX3_correctedCells_42 : decode cX3_correctedCells 42 = .ok (.if_icmp .eq 7, 3) := by decide +kernel
theorem dX3_correctedCells_45 : decode cX3_correctedCells 45 = .ok (.iconst 1, 1) := by decide +kernel
theorem dX3_correctedCells_46 : decode cX3_correctedCells 46 = .ok (.goto 4, 3) := by decide +kernel
theorem dX3_correctedCells_49 : decode cX3_correctedCells 49 = .ok (.iconst 0, 1) := by decide +kernel
theorem dX3_correctedCells_50 : decode cX3_correctedCells 50 = .ok (.iadd, 1) := by decide +kernel
theorem dX3_correctedCells_51 : decode cX3_correctedCells 51 = .ok (.istore_n 1, 1) := by decide +kernel
theorem dX3_correctedCells_52 : decode cX3_correctedCells 52 = .ok (.iinc 2 1, 3) := by decide +kernel
theorem dX3_correctedCells_55 : decode cX3_correctedCells 55 = .ok (.goto (-51), 3) := by decide +kernel
theorem dX3_correctedCells_58 : decode cX3_correctedCells 58 = .ok (.iload_n 1, 1) := by decide +kernel
theorem dX3_correctedCells_59 : decode cX3_correctedCells 59 = .ok (.ireturn, 1) := by decide +kernel
theorem dX3_corrected_0 : decode cX3_corrected 0 = .ok (.aload_n 0, 1) := by decide +kernel
theorem dX3_corrected_1 : decode cX3_corrected 1 = .ok (.aload_n 0, 1) := by decide +kernel
theorem dX3_corrected_2 : decode cX3_corrected 2 = .ok (.invokevirtual 106, 3) := by decide +kernel
theorem dX3_corrected_5 : decode cX3_corrected 5 = .ok (.invokevirtual 88, 3) := by decide +kernel
theorem dX3_corrected_8 : decode cX3_corrected 8 = .ok (.ireturn, 1) := by decide +kernel
theorem dX3_room_0 : decode cX3_room 0 = .ok (.aload_n 0, 1) := by decide +kernel
theorem dX3_room_1 : decode cX3_room 1 = .ok (.aload_n 0, 1) := by decide +kernel
theorem dX3_room_2 : decode cX3_room 2 = .ok (.invokevirtual 46, 3) := by decide +kernel
theorem dX3_room_5 : decode cX3_room 5 = .ok (.invokevirtual 88, 3) := by decide +kernel
theorem dX3_room_8 : decode cX3_room 8 = .ok (.ireturn, 1) := by decide +kernel
theorem dX3_loser_0 : decode cX3_loser 0 = .ok (.iconst 0, 1) := by decide +kernel
theorem dX3_loser_1 : decode cX3_loser 1 = .ok (.istore_n 1, 1) := by decide +kernel
theorem dX3_loser_2 : decode cX3_loser 2 = .ok (.iload_n 1, 1) := by decide +kernel
theorem dX3_loser_3 : decode cX3_loser 3 = .ok (.bipush 32, 2) := by decide +kernel
theorem dX3_loser_5 : decode cX3_loser 5 = .ok (.if_icmp .ge 52, 3) := by decide +kernel
theorem dX3_loser_8 : decode cX3_loser 8 = .ok (.aload_n 0, 1) := by decide +kernel
theorem dX3_loser_9 : decode cX3_loser 9 = .ok (.getfield 7, 3) := by decide +kernel
theorem dX3_loser_12 : decode cX3_loser 12 = .ok (.iconst 2, 1) := by decide +kernel
theorem dX3_loser_13 : decode cX3_loser 13 = .ok (.iaload, 1) := by decide +kernel
theorem dX3_loser_14 : decode cX3_loser 14 = .ok (.iload_n 1, 1) := by decide +kernel
theorem dX3_loser_15 : decode cX3_loser 15 = .ok (.iadd, 1) := by decide +kernel
theorem dX3_loser_16 : decode cX3_loser 16 = .ok (.bipush 32, 2) := by decide +kernel
theorem dX3_loser_18 : decode cX3_loser 18 = .ok (.irem, 1) := by decide +kernel
theorem dX3_loser_19 : decode cX3_loser 19 = .ok (.istore_n 2, 1) := by decide +kernel
theorem dX3_loser_20 : decode cX3_loser 20 = .ok (.aload_n 0, 1) := by decide +kernel
theorem dX3_loser_21 : decode cX3_loser 21 = .ok (.getfield 7, 3) := by decide +kernel
theorem dX3_loser_24 : decode cX3_loser 24 = .ok (.bipush 27, 2) := by decide +kernel
theorem dX3_loser_26 : decode cX3_loser 26 = .ok (.iload_n 2, 1) := by decide +kernel
theorem dX3_loser_27 : decode cX3_loser 27 = .ok (.iadd, 1) := by decide +kernel
theorem dX3_loser_28 : decode cX3_loser 28 = .ok (.iaload, 1) := by decide +kernel
theorem dX3_loser_29 : decode cX3_loser 29 = .ok (.iconst (-1), 1) := by decide +kernel
theorem dX3_loser_30 : decode cX3_loser 30 = .ok (.if_icmp .eq 21, 3) := by decide +kernel
theorem dX3_loser_33 : decode cX3_loser 33 = .ok (.aload_n 0, 1) := by decide +kernel
theorem dX3_loser_34 : decode cX3_loser 34 = .ok (.iload_n 2, 1) := by decide +kernel
theorem dX3_loser_35 : decode cX3_loser 35 = .ok (.invokevirtual 28, 3) := by decide +kernel
theorem dX3_loser_38 : decode cX3_loser 38 = .ok (.ifCond .eq 13, 3) := by decide +kernel
theorem dX3_loser_41 : decode cX3_loser 41 = .ok (.aload_n 0, 1) := by decide +kernel
theorem dX3_loser_42 : decode cX3_loser 42 = .ok (.getfield 7, 3) := by decide +kernel
theorem dX3_loser_45 : decode cX3_loser 45 = .ok (.bipush 27, 2) := by decide +kernel
theorem dX3_loser_47 : decode cX3_loser 47 = .ok (.iload_n 2, 1) := by decide +kernel
theorem dX3_loser_48 : decode cX3_loser 48 = .ok (.iadd, 1) := by decide +kernel
theorem dX3_loser_49 : decode cX3_loser 49 = .ok (.iaload, 1) := by decide +kernel
theorem dX3_loser_50 : decode cX3_loser 50 = .ok (.ireturn, 1) := by decide +kernel
theorem dX3_loser_51 : decode cX3_loser 51 = .ok (.iinc 1 1, 3) := by decide +kernel
theorem dX3_loser_54 : decode cX3_loser 54 = .ok (.goto (-52), 3) := by decide +kernel
theorem dX3_loser_57 : decode cX3_loser 57 = .ok (.iconst (-1), 1) := by decide +kernel
theorem dX3_loser_58 : decode cX3_loser 58 = .ok (.ireturn, 1) := by decide +kernel
theorem dX3_nextLoser_0 : decode cX3_nextLoser 0 = .ok (.aload_n 0, 1) := by decide +kernel
theorem dX3_nextLoser_1 : decode cX3_nextLoser 1 = .ok (.aload_n 0, 1) := by decide +kernel
theorem dX3_nextLoser_2 : decode cX3_nextLoser 2 = .ok (.invokevirtual 109, 3) := by decide +kernel
theorem dX3_nextLoser_5 : decode cX3_nextLoser 5 = .ok (.invokevirtual 88, 3) := by decide +kernel
theorem dX3_nextLoser_8 : decode cX3_nextLoser 8 = .ok (.ireturn, 1) := by decide +kernel
theorem dX3_loss_0 : decode cX3_loss 0 = .ok (.iload_n 2, 1) := by decide +kernel
theorem dX3_loss_1 : decode cX3_loss 1 = .ok (.istore_n 3, 1) := by decide +kernel
theorem dX3_loss_2 : decode cX3_loss 2 = .ok (.iconst 0, 1) := by decide +kernel
theorem dX3_loss_3 : decode cX3_loss 3 = .ok (.istore 4, 2) := by decide +kernel
theorem dX3_loss_5 : decode cX3_loss 5 = .ok (.iconst 0, 1) := by decide +kernel
theorem dX3_loss_6 : decode cX3_loss 6 = .ok (.istore 5, 2) := by decide +kernel
theorem dX3_loss_8 : decode cX3_loss 8 = .ok (.iload 5, 2) := by decide +kernel
theorem dX3_loss_10 : decode cX3_loss 10 = .ok (.bipush 32, 2) := by decide +kernel
theorem dX3_loss_12 : decode cX3_loss 12 = .ok (.if_icmp .ge 77, 3) := by decide +kernel
theorem dX3_loss_15 : decode cX3_loss 15 = .ok (.iload_n 3, 1) := by decide +kernel
theorem dX3_loss_16 : decode cX3_loss 16 = .ok (.ifCond .le 73, 3) := by decide +kernel
theorem dX3_loss_19 : decode cX3_loss 19 = .ok (.aload_n 0, 1) := by decide +kernel
theorem dX3_loss_20 : decode cX3_loss 20 = .ok (.getfield 7, 3) := by decide +kernel
theorem dX3_loss_23 : decode cX3_loss 23 = .ok (.iconst 2, 1) := by decide +kernel
theorem dX3_loss_24 : decode cX3_loss 24 = .ok (.iaload, 1) := by decide +kernel
theorem dX3_loss_25 : decode cX3_loss 25 = .ok (.iload 5, 2) := by decide +kernel
theorem dX3_loss_27 : decode cX3_loss 27 = .ok (.iadd, 1) := by decide +kernel
theorem dX3_loss_28 : decode cX3_loss 28 = .ok (.bipush 32, 2) := by decide +kernel
theorem dX3_loss_30 : decode cX3_loss 30 = .ok (.irem, 1) := by decide +kernel
theorem dX3_loss_31 : decode cX3_loss 31 = .ok (.istore 6, 2) := by decide +kernel
theorem dX3_loss_33 : decode cX3_loss 33 = .ok (.aload_n 0, 1) := by decide +kernel
theorem dX3_loss_34 : decode cX3_loss 34 = .ok (.iload 6, 2) := by decide +kernel
theorem dX3_loss_36 : decode cX3_loss 36 = .ok (.invokevirtual 28, 3) := by decide +kernel
theorem dX3_loss_39 : decode cX3_loss 39 = .ok (.istore 7, 2) := by decide +kernel
theorem dX3_loss_41 : decode cX3_loss 41 = .ok (.iload_n 3, 1) := by decide +kernel
theorem dX3_loss_42 : decode cX3_loss 42 = .ok (.iload 7, 2) := by decide +kernel
theorem dX3_loss_44 : decode cX3_loss 44 = .ok (.ifCond .eq 7, 3) := by decide +kernel
theorem dX3_loss_47 : decode cX3_loss 47 = .ok (.iconst 1, 1) := by decide +kernel
theorem dX3_loss_48 : decode cX3_loss 48 = .ok (.goto 4, 3) := by decide +kernel
theorem dX3_loss_51 : decode cX3_loss 51 = .ok (.iconst 0, 1) := by decide +kernel
theorem dX3_loss_52 : decode cX3_loss 52 = .ok (.isub, 1) := by decide +kernel
theorem dX3_loss_53 : decode cX3_loss 53 = .ok (.istore_n 3, 1) := by decide +kernel
theorem dX3_loss_54 : decode cX3_loss 54 = .ok (.iload 4, 2) := by decide +kernel
theorem dX3_loss_56 : decode cX3_loss 56 = .ok (.iload 7, 2) := by decide +kernel
theorem dX3_loss_58 : decode cX3_loss 58 = .ok (.ifCond .eq 21, 3) := by decide +kernel
theorem dX3_loss_61 : decode cX3_loss 61 = .ok (.aload_n 0, 1) := by decide +kernel
theorem dX3_loss_62 : decode cX3_loss 62 = .ok (.getfield 7, 3) := by decide +kernel
theorem dX3_loss_65 : decode cX3_loss 65 = .ok (.bipush 27, 2) := by decide +kernel
theorem dX3_loss_67 : decode cX3_loss 67 = .ok (.iload 6, 2) := by decide +kernel
theorem dX3_loss_69 : decode cX3_loss 69 = .ok (.iadd, 1) := by decide +kernel
theorem dX3_loss_70 : decode cX3_loss 70 = .ok (.iaload, 1) := by decide +kernel
theorem dX3_loss_71 : decode cX3_loss 71 = .ok (.iload_n 1, 1) := by decide +kernel
theorem dX3_loss_72 : decode cX3_loss 72 = .ok (.if_icmp .ne 7, 3) := by decide +kernel
theorem dX3_loss_75 : decode cX3_loss 75 = .ok (.iconst 1, 1) := by decide +kernel
theorem dX3_loss_76 : decode cX3_loss 76 = .ok (.goto 4, 3) := by decide +kernel
theorem dX3_loss_79 : decode cX3_loss 79 = .ok (.iconst 0, 1) := by decide +kernel
theorem dX3_loss_80 : decode cX3_loss 80 = .ok (.iadd, 1) := by decide +kernel
theorem dX3_loss_81 : decode cX3_loss 81 = .ok (.istore 4, 2) := by decide +kernel
theorem dX3_loss_83 : decode cX3_loss 83 = .ok (.iinc 5 1, 3) := by decide +kernel
theorem dX3_loss_86 : decode cX3_loss 86 = .ok (.goto (-78), 3) := by decide +kernel
theorem dX3_loss_89 : decode cX3_loss 89 = .ok (.iload 4, 2) := by decide +kernel
theorem dX3_loss_91 : decode cX3_loss 91 = .ok (.ireturn, 1) := by decide +kernel
theorem dX3_lossOf_0 : decode cX3_lossOf 0 = .ok (.aload_n 0, 1) := by decide +kernel
theorem dX3_lossOf_1 : decode cX3_lossOf 1 = .ok (.aload_n 0, 1) := by decide +kernel
theorem dX3_lossOf_2 : decode cX3_lossOf 2 = .ok (.iload_n 1, 1) := by decide +kernel
theorem dX3_lossOf_3 : decode cX3_lossOf 3 = .ok (.invokevirtual 82, 3) := by decide +kernel
theorem dX3_lossOf_6 : decode cX3_lossOf 6 = .ok (.ifCond .ne 7, 3) := by decide +kernel
theorem dX3_lossOf_9 : decode cX3_lossOf 9 = .ok (.iconst 1, 1) := by decide +kernel
theorem dX3_lossOf_10 : decode cX3_lossOf 10 = .ok (.goto 18, 3) := by decide +kernel
theorem dX3_lossOf_13 : decode cX3_lossOf 13 = .ok (.iload_n 2, 1) := by decide +kernel
theorem dX3_lossOf_14 : decode cX3_lossOf 14 = .ok (.iconst 1, 1) := by decide +kernel
theorem dX3_lossOf_15 : decode cX3_lossOf 15 = .ok (.bipush 32, 2) := by decide +kernel
theorem dX3_lossOf_17 : decode cX3_lossOf 17 = .ok (.invokestatic 20, 3) := by decide +kernel
theorem dX3_lossOf_20 : decode cX3_lossOf 20 = .ok (.ifCond .ne 7, 3) := by decide +kernel
theorem dX3_lossOf_23 : decode cX3_lossOf 23 = .ok (.iconst 2, 1) := by decide +kernel
theorem dX3_lossOf_24 : decode cX3_lossOf 24 = .ok (.goto 4, 3) := by decide +kernel
theorem dX3_lossOf_27 : decode cX3_lossOf 27 = .ok (.iconst 0, 1) := by decide +kernel
theorem dX3_lossOf_28 : decode cX3_lossOf 28 = .ok (.invokevirtual 64, 3) := by decide +kernel
theorem dX3_lossOf_31 : decode cX3_lossOf 31 = .ok (.ifCond .eq 12, 3) := by decide +kernel
theorem dX3_lossOf_34 : decode cX3_lossOf 34 = .ok (.aload_n 0, 1) := by decide +kernel
theorem dX3_lossOf_35 : decode cX3_lossOf 35 = .ok (.iload_n 1, 1) := by decide +kernel
theorem dX3_lossOf_36 : decode cX3_lossOf 36 = .ok (.iload_n 2, 1) := by decide +kernel
theorem dX3_lossOf_37 : decode cX3_lossOf 37 = .ok (.invokevirtual 112, 3) := by decide +kernel
theorem dX3_lossOf_40 : decode cX3_lossOf 40 = .ok (.goto 4, 3) := by decide +kernel
theorem dX3_lossOf_43 : decode cX3_lossOf 43 = .ok (.iconst 0, 1) := by decide +kernel
theorem dX3_lossOf_44 : decode cX3_lossOf 44 = .ok (.ireturn, 1) := by decide +kernel
theorem dX3_goneAfter_0 : decode cX3_goneAfter 0 = .ok (.aload_n 0, 1) := by decide +kernel
theorem dX3_goneAfter_1 : decode cX3_goneAfter 1 = .ok (.iload_n 1, 1) := by decide +kernel
theorem dX3_goneAfter_2 : decode cX3_goneAfter 2 = .ok (.iconst 1, 1) := by decide +kernel
theorem dX3_goneAfter_3 : decode cX3_goneAfter 3 = .ok (.bipush 32, 2) := by decide +kernel
theorem dX3_goneAfter_5 : decode cX3_goneAfter 5 = .ok (.invokestatic 20, 3) := by decide +kernel
theorem dX3_goneAfter_8 : decode cX3_goneAfter 8 = .ok (.ifCond .eq 7, 3) := by decide +kernel
theorem dX3_goneAfter_11 : decode cX3_goneAfter 11 = .ok (.iconst 0, 1) := by decide +kernel
theorem dX3_goneAfter_12 : decode cX3_goneAfter 12 = .ok (.goto 4, 3) := by decide +kernel
theorem dX3_goneAfter_15 : decode cX3_goneAfter 15 = .ok (.iconst 1, 1) := by decide +kernel
theorem dX3_goneAfter_16 : decode cX3_goneAfter 16 = .ok (.invokevirtual 64, 3) := by decide +kernel
theorem dX3_goneAfter_19 : decode cX3_goneAfter 19 = .ok (.ifCond .ne 5, 3) := by decide +kernel
theorem dX3_goneAfter_22 : decode cX3_goneAfter 22 = .ok (.iconst 0, 1) := by decide +kernel
theorem dX3_goneAfter_23 : decode cX3_goneAfter 23 = .ok (.ireturn, 1) := by decide +kernel
theorem dX3_goneAfter_24 : decode cX3_goneAfter 24 = .ok (.iconst 0, 1) := by decide +kernel
theorem dX3_goneAfter_25 : decode cX3_goneAfter 25 = .ok (.istore_n 2, 1) := by decide +kernel
theorem dX3_goneAfter_26 : decode cX3_goneAfter 26 = .ok (.iconst 0, 1) := by decide +kernel
theorem dX3_goneAfter_27 : decode cX3_goneAfter 27 = .ok (.istore_n 3, 1) := by decide +kernel
theorem dX3_goneAfter_28 : decode cX3_goneAfter 28 = .ok (.iload_n 3, 1) := by decide +kernel
theorem dX3_goneAfter_29 : decode cX3_goneAfter 29 = .ok (.aload_n 0, 1) := by decide +kernel
theorem dX3_goneAfter_30 : decode cX3_goneAfter 30 = .ok (.getfield 7, 3) := by decide +kernel
theorem dX3_goneAfter_33 : decode cX3_goneAfter 33 = .ok (.iconst 0, 1) := by decide +kernel
theorem dX3_goneAfter_34 : decode cX3_goneAfter 34 = .ok (.iaload, 1) := by decide +kernel
theorem dX3_goneAfter_35 : decode cX3_goneAfter 35 = .ok (.if_icmp .ge 40, 3) := by decide +kernel
theorem dX3_goneAfter_38 : decode cX3_goneAfter 38 = .ok (.aload_n 0, 1) := by decide +kernel
theorem dX3_goneAfter_39 : decode cX3_goneAfter 39 = .ok (.iload_n 3, 1) := by decide +kernel
theorem dX3_goneAfter_40 : decode cX3_goneAfter 40 = .ok (.iload_n 1, 1) := by decide +kernel
theorem dX3_goneAfter_41 : decode cX3_goneAfter 41 = .ok (.invokevirtual 112, 3) := by decide +kernel
theorem dX3_goneAfter_44 : decode cX3_goneAfter 44 = .ok (.istore 4, 2) := by decide +kernel
theorem dX3_goneAfter_46 : decode cX3_goneAfter 46 = .ok (.iload_n 2, 1) := by decide +kernel
theorem dX3_goneAfter_47 : decode cX3_goneAfter 47 = .ok (.iload 4, 2) := by decide +kernel
theorem dX3_goneAfter_49 : decode cX3_goneAfter 49 = .ok (.ifCond .le 17, 3) := by decide +kernel
theorem dX3_goneAfter_52 : decode cX3_goneAfter 52 = .ok (.iload 4, 2) := by decide +kernel
theorem dX3_goneAfter_54 : decode cX3_goneAfter 54 = .ok (.aload_n 0, 1) := by decide +kernel
theorem dX3_goneAfter_55 : decode cX3_goneAfter 55 = .ok (.iload_n 3, 1) := by decide +kernel
theorem dX3_goneAfter_56 : decode cX3_goneAfter 56 = .ok (.invokevirtual 32, 3) := by decide +kernel
theorem dX3_goneAfter_59 : decode cX3_goneAfter 59 = .ok (.if_icmp .ne 7, 3) := by decide +kernel
theorem dX3_goneAfter_62 : decode cX3_goneAfter 62 = .ok (.iconst 1, 1) := by decide +kernel
theorem dX3_goneAfter_63 : decode cX3_goneAfter 63 = .ok (.goto 4, 3) := by decide +kernel
theorem dX3_goneAfter_66 : decode cX3_goneAfter 66 = .ok (.iconst 0, 1) := by decide +kernel
theorem dX3_goneAfter_67 : decode cX3_goneAfter 67 = .ok (.iadd, 1) := by decide +kernel
theorem dX3_goneAfter_68 : decode cX3_goneAfter 68 = .ok (.istore_n 2, 1) := by decide +kernel
theorem dX3_goneAfter_69 : decode cX3_goneAfter 69 = .ok (.iinc 3 1, 3) := by decide +kernel
theorem dX3_goneAfter_72 : decode cX3_goneAfter 72 = .ok (.goto (-44), 3) := by decide +kernel
theorem dX3_goneAfter_75 : decode cX3_goneAfter 75 = .ok (.iload_n 2, 1) := by decide +kernel
theorem dX3_goneAfter_76 : decode cX3_goneAfter 76 = .ok (.ireturn, 1) := by decide +kernel
theorem dX3_append_0 : decode cX3_append 0 = .ok (.aload_n 0, 1) := by decide +kernel
theorem dX3_append_1 : decode cX3_append 1 = .ok (.iload_n 1, 1) := by decide +kernel
theorem dX3_append_2 : decode cX3_append 2 = .ok (.bipush 33, 2) := by decide +kernel
theorem dX3_append_4 : decode cX3_append 4 = .ok (.bipush 126, 2) := by decide +kernel
theorem dX3_append_6 : decode cX3_append 6 = .ok (.invokestatic 20, 3) := by decide +kernel
theorem dX3_append_9 : decode cX3_append 9 = .ok (.ifCond .ne 7, 3) := by decide +kernel
theorem dX3_append_12 : decode cX3_append 12 = .ok (.iconst 1, 1) := by decide +kernel
theorem dX3_append_13 : decode cX3_append 13 = .ok (.goto 17, 3) := by decide +kernel
theorem dX3_append_16 : decode cX3_append 16 = .ok (.aload_n 0, 1) := by decide +kernel
theorem dX3_append_17 : decode cX3_append 17 = .ok (.getfield 115, 3) := by decide +kernel
theorem dX3_append_20 : decode cX3_append 20 = .ok (.bipush 60, 2) := by decide +kernel
theorem dX3_append_22 : decode cX3_append 22 = .ok (.if_icmp .ne 7, 3) := by decide +kernel
theorem dX3_append_25 : decode cX3_append 25 = .ok (.iconst 2, 1) := by decide +kernel
theorem dX3_append_26 : decode cX3_append 26 = .ok (.goto 4, 3) := by decide +kernel
theorem dX3_append_29 : decode cX3_append 29 = .ok (.iconst 0, 1) := by decide +kernel
theorem dX3_append_30 : decode cX3_append 30 = .ok (.invokevirtual 64, 3) := by decide +kernel
theorem dX3_append_33 : decode cX3_append 33 = .ok (.ifCond .ne 5, 3) := by decide +kernel
theorem dX3_append_36 : decode cX3_append 36 = .ok (.iconst 0, 1) := by decide +kernel
theorem dX3_append_37 : decode cX3_append 37 = .ok (.ireturn, 1) := by decide +kernel
theorem dX3_append_38 : decode cX3_append 38 = .ok (.aload_n 0, 1) := by decide +kernel
theorem dX3_append_39 : decode cX3_append 39 = .ok (.getfield 13, 3) := by decide +kernel
theorem dX3_append_42 : decode cX3_append 42 = .ok (.aload_n 0, 1) := by decide +kernel
theorem dX3_append_43 : decode cX3_append 43 = .ok (.getfield 115, 3) := by decide +kernel
theorem dX3_append_46 : decode cX3_append 46 = .ok (.iload_n 1, 1) := by decide +kernel
theorem dX3_append_47 : decode cX3_append 47 = .ok (.iastore, 1) := by decide +kernel
theorem dX3_append_48 : decode cX3_append 48 = .ok (.aload_n 0, 1) := by decide +kernel
theorem dX3_append_49 : decode cX3_append 49 = .ok (.dup, 1) := by decide +kernel
theorem dX3_append_50 : decode cX3_append 50 = .ok (.getfield 115, 3) := by decide +kernel
theorem dX3_append_53 : decode cX3_append 53 = .ok (.iconst 1, 1) := by decide +kernel
theorem dX3_append_54 : decode cX3_append 54 = .ok (.iadd, 1) := by decide +kernel
theorem dX3_append_55 : decode cX3_append 55 = .ok (.putfield 115, 3) := by decide +kernel
theorem dX3_append_58 : decode cX3_append 58 = .ok (.aload_n 0, 1) := by decide +kernel
theorem dX3_append_59 : decode cX3_append 59 = .ok (.getfield 115, 3) := by decide +kernel
theorem dX3_append_62 : decode cX3_append 62 = .ok (.ireturn, 1) := by decide +kernel
theorem dX3_clearText_0 : decode cX3_clearText 0 = .ok (.aload_n 0, 1) := by decide +kernel
theorem dX3_clearText_1 : decode cX3_clearText 1 = .ok (.iconst 0, 1) := by decide +kernel
theorem dX3_clearText_2 : decode cX3_clearText 2 = .ok (.putfield 16, 3) := by decide +kernel
theorem dX3_clearText_5 : decode cX3_clearText 5 = .ok (.aload_n 0, 1) := by decide +kernel
theorem dX3_clearText_6 : decode cX3_clearText 6 = .ok (.getfield 115, 3) := by decide +kernel
theorem dX3_clearText_9 : decode cX3_clearText 9 = .ok (.istore_n 1, 1) := by decide +kernel
theorem dX3_clearText_10 : decode cX3_clearText 10 = .ok (.aload_n 0, 1) := by decide +kernel
theorem dX3_clearText_11 : decode cX3_clearText 11 = .ok (.iconst 0, 1) := by decide +kernel
theorem dX3_clearText_12 : decode cX3_clearText 12 = .ok (.putfield 115, 3) := by decide +kernel
theorem dX3_clearText_15 : decode cX3_clearText 15 = .ok (.iload_n 1, 1) := by decide +kernel
theorem dX3_clearText_16 : decode cX3_clearText 16 = .ok (.ireturn, 1) := by decide +kernel
theorem dX3_sign_0 : decode cX3_sign 0 = .ok (.aload_n 0, 1) := by decide +kernel
theorem dX3_sign_1 : decode cX3_sign 1 = .ok (.getfield 118, 3) := by decide +kernel
theorem dX3_sign_4 : decode cX3_sign 4 = .ok (.aload_n 0, 1) := by decide +kernel
theorem dX3_sign_5 : decode cX3_sign 5 = .ok (.getfield 115, 3) := by decide +kernel
theorem dX3_sign_8 : decode cX3_sign 8 = .ok (.if_icmp .ge 15, 3) := by decide +kernel
theorem dX3_sign_11 : decode cX3_sign 11 = .ok (.aload_n 0, 1) := by decide +kernel
theorem dX3_sign_12 : decode cX3_sign 12 = .ok (.getfield 13, 3) := by decide +kernel
theorem dX3_sign_15 : decode cX3_sign 15 = .ok (.aload_n 0, 1) := by decide +kernel
theorem dX3_sign_16 : decode cX3_sign 16 = .ok (.getfield 118, 3) := by decide +kernel
theorem dX3_sign_19 : decode cX3_sign 19 = .ok (.iaload, 1) := by decide +kernel
theorem dX3_sign_20 : decode cX3_sign 20 = .ok (.goto 4, 3) := by decide +kernel
theorem dX3_sign_23 : decode cX3_sign 23 = .ok (.iconst 0, 1) := by decide +kernel
theorem dX3_sign_24 : decode cX3_sign 24 = .ok (.ireturn, 1) := by decide +kernel
theorem dX3_takes_0 : decode cX3_takes 0 = .ok (.aload_n 0, 1) := by decide +kernel
theorem dX3_takes_1 : decode cX3_takes 1 = .ok (.invokevirtual 121, 3) := by decide +kernel
theorem dX3_takes_4 : decode cX3_takes 4 = .ok (.iload_n 1, 1) := by decide +kernel
theorem dX3_takes_5 : decode cX3_takes 5 = .ok (.if_icmp .ne 7, 3) := by decide +kernel
theorem dX3_takes_8 : decode cX3_takes 8 = .ok (.iconst 1, 1) := by decide +kernel
theorem dX3_takes_9 : decode cX3_takes 9 = .ok (.goto 4, 3) := by decide +kernel
theorem dX3_takes_12 : decode cX3_takes 12 = .ok (.iconst 0, 1) := by decide +kernel
theorem dX3_takes_13 : decode cX3_takes 13 = .ok (.istore_n 2, 1) := by decide +kernel
theorem dX3_takes_14 : decode cX3_takes 14 = .ok (.aload_n 0, 1) := by decide +kernel
theorem dX3_takes_15 : decode cX3_takes 15 = .ok (.dup, 1) := by decide +kernel
theorem dX3_takes_16 : decode cX3_takes 16 = .ok (.getfield 118, 3) := by decide +kernel
theorem dX3_takes_19 : decode cX3_takes 19 = .ok (.iload_n 2, 1) := by decide +kernel
theorem dX3_takes_20 : decode cX3_takes 20 = .ok (.ifCond .eq 7, 3) := by decide +kernel
theorem dX3_takes_23 : decode cX3_takes 23 = .ok (.iconst 1, 1) := by decide +kernel
theorem dX3_takes_24 : decode cX3_takes 24 = .ok (.goto 4, 3) := by decide +kernel
theorem dX3_takes_27 : decode cX3_takes 27 = .ok (.iconst 0, 1) := by decide +kernel
theorem dX3_takes_28 : decode cX3_takes 28 = .ok (.iadd, 1) := by decide +kernel
theorem dX3_takes_29 : decode cX3_takes 29 = .ok (.putfield 118, 3) := by decide +kernel
theorem dX3_takes_32 : decode cX3_takes 32 = .ok (.iload_n 2, 1) := by decide +kernel
theorem dX3_takes_33 : decode cX3_takes 33 = .ok (.ireturn, 1) := by decide +kernel
theorem dX3_number_0 : decode cX3_number 0 = .ok (.aload_n 0, 1) := by decide +kernel
theorem dX3_number_1 : decode cX3_number 1 = .ok (.invokevirtual 121, 3) := by decide +kernel
theorem dX3_number_4 : decode cX3_number 4 = .ok (.bipush 48, 2) := by decide +kernel
theorem dX3_number_6 : decode cX3_number 6 = .ok (.iload_n 1, 1) := by decide +kernel
theorem dX3_number_7 : decode cX3_number 7 = .ok (.iadd, 1) := by decide +kernel
theorem dX3_number_8 : decode cX3_number 8 = .ok (.bipush 57, 2) := by decide +kernel
theorem dX3_number_10 : decode cX3_number 10 = .ok (.invokestatic 20, 3) := by decide +kernel
theorem dX3_number_13 : decode cX3_number 13 = .ok (.ifCond .eq 13, 3) := by decide +kernel
theorem dX3_number_16 : decode cX3_number 16 = .ok (.aload_n 0, 1) := by decide +kernel
theorem dX3_number_17 : decode cX3_number 17 = .ok (.invokevirtual 121, 3) := by decide +kernel
theorem dX3_number_20 : decode cX3_number 20 = .ok (.bipush 48, 2) := by decide +kernel
theorem dX3_number_22 : decode cX3_number 22 = .ok (.isub, 1) := by decide +kernel
theorem dX3_number_23 : decode cX3_number 23 = .ok (.goto 4, 3) := by decide +kernel
theorem dX3_number_26 : decode cX3_number 26 = .ok (.iconst (-1), 1) := by decide +kernel
theorem dX3_number_27 : decode cX3_number 27 = .ok (.istore_n 3, 1) := by decide +kernel
theorem dX3_number_28 : decode cX3_number 28 = .ok (.aload_n 0, 1) := by decide +kernel
theorem dX3_number_29 : decode cX3_number 29 = .ok (.dup, 1) := by decide +kernel
theorem dX3_number_30 : decode cX3_number 30 = .ok (.getfield 118, 3) := by decide +kernel
theorem dX3_number_33 : decode cX3_number 33 = .ok (.iload_n 3, 1) := by decide +kernel
theorem dX3_number_34 : decode cX3_number 34 = .ok (.iconst (-1), 1) := by decide +kernel
theorem dX3_number_35 : decode cX3_number 35 = .ok (.if_icmp .ne 7, 3) := by decide +kernel
theorem dX3_number_38 : decode cX3_number 38 = .ok (.iconst 0, 1) := by decide +kernel
theorem dX3_number_39 : decode cX3_number 39 = .ok (.goto 4, 3) := by decide +kernel
theorem dX3_number_42 : decode cX3_number 42 = .ok (.iconst 1, 1) := by decide +kernel
theorem dX3_number_43 : decode cX3_number 43 = .ok (.iadd, 1) := by decide +kernel
theorem dX3_number_44 : decode cX3_number 44 = .ok (.putfield 118, 3) := by decide +kernel
theorem dX3_number_47 : decode cX3_number 47 = .ok (.iload_n 3, 1) := by decide +kernel
theorem dX3_number_48 : decode cX3_number 48 = .ok (.ifCond .le 59, 3) := by decide +kernel
theorem dX3_number_51 : decode cX3_number 51 = .ok (.aload_n 0, 1) := by decide +kernel
theorem dX3_number_52 : decode cX3_number 52 = .ok (.invokevirtual 121, 3) := by decide +kernel
theorem dX3_number_55 : decode cX3_number 55 = .ok (.bipush 48, 2) := by decide +kernel
theorem dX3_number_57 : decode cX3_number 57 = .ok (.bipush 57, 2) := by decide +kernel
theorem dX3_number_59 : decode cX3_number 59 = .ok (.invokestatic 20, 3) := by decide +kernel
theorem dX3_number_62 : decode cX3_number 62 = .ok (.ifCond .eq 45, 3) := by decide +kernel
theorem dX3_number_65 : decode cX3_number 65 = .ok (.bipush 10, 2) := by decide +kernel
theorem dX3_number_67 : decode cX3_number 67 = .ok (.iload_n 3, 1) := by decide +kernel
theorem dX3_number_68 : decode cX3_number 68 = .ok (.imul, 1) := by decide +kernel
theorem dX3_number_69 : decode cX3_number 69 = .ok (.aload_n 0, 1) := by decide +kernel
theorem dX3_number_70 : decode cX3_number 70 = .ok (.invokevirtual 121, 3) := by decide +kernel
theorem dX3_number_73 : decode cX3_number 73 = .ok (.iadd, 1) := by decide +kernel
theorem dX3_number_74 : decode cX3_number 74 = .ok (.bipush 48, 2) := by decide +kernel
theorem dX3_number_76 : decode cX3_number 76 = .ok (.isub, 1) := by decide +kernel
theorem dX3_number_77 : decode cX3_number 77 = .ok (.iload_n 2, 1) := by decide +kernel
theorem dX3_number_78 : decode cX3_number 78 = .ok (.if_icmp .gt 29, 3) := by decide +kernel
theorem dX3_number_81 : decode cX3_number 81 = .ok (.bipush 10, 2) := by decide +kernel
theorem dX3_number_83 : decode cX3_number 83 = .ok (.iload_n 3, 1) := by decide +kernel
theorem dX3_number_84 : decode cX3_number 84 = .ok (.imul, 1) := by decide +kernel
theorem dX3_number_85 : decode cX3_number 85 = .ok (.aload_n 0, 1) := by decide +kernel
theorem dX3_number_86 : decode cX3_number 86 = .ok (.invokevirtual 121, 3) := by decide +kernel
theorem dX3_number_89 : decode cX3_number 89 = .ok (.iadd, 1) := by decide +kernel
theorem dX3_number_90 : decode cX3_number 90 = .ok (.bipush 48, 2) := by decide +kernel
theorem dX3_number_92 : decode cX3_number 92 = .ok (.isub, 1) := by decide +kernel
theorem dX3_number_93 : decode cX3_number 93 = .ok (.istore_n 3, 1) := by decide +kernel
theorem dX3_number_94 : decode cX3_number 94 = .ok (.aload_n 0, 1) := by decide +kernel
theorem dX3_number_95 : decode cX3_number 95 = .ok (.dup, 1) := by decide +kernel
theorem dX3_number_96 : decode cX3_number 96 = .ok (.getfield 118, 3) := by decide +kernel
theorem dX3_number_99 : decode cX3_number 99 = .ok (.iconst 1, 1) := by decide +kernel
theorem dX3_number_100 : decode cX3_number 100 = .ok (.iadd, 1) := by decide +kernel
theorem dX3_number_101 : decode cX3_number 101 = .ok (.putfield 118, 3) := by decide +kernel
theorem dX3_number_104 : decode cX3_number 104 = .ok (.goto (-57), 3) := by decide +kernel
theorem dX3_number_107 : decode cX3_number 107 = .ok (.iload_n 3, 1) := by decide +kernel
theorem dX3_number_108 : decode cX3_number 108 = .ok (.ireturn, 1) := by decide +kernel
theorem dX3_readsOrder_0 : decode cX3_readsOrder 0 = .ok (.aload_n 0, 1) := by decide +kernel
theorem dX3_readsOrder_1 : decode cX3_readsOrder 1 = .ok (.aload_n 0, 1) := by decide +kernel
theorem dX3_readsOrder_2 : decode cX3_readsOrder 2 = .ok (.invokevirtual 121, 3) := by decide +kernel
theorem dX3_readsOrder_5 : decode cX3_readsOrder 5 = .ok (.putfield 124, 3) := by decide +kernel
theorem dX3_readsOrder_8 : decode cX3_readsOrder 8 = .ok (.aload_n 0, 1) := by decide +kernel
theorem dX3_readsOrder_9 : decode cX3_readsOrder 9 = .ok (.bipush 98, 2) := by decide +kernel
theorem dX3_readsOrder_11 : decode cX3_readsOrder 11 = .ok (.invokevirtual 127, 3) := by decide +kernel
theorem dX3_readsOrder_14 : decode cX3_readsOrder 14 = .ok (.ifCond .ne 21, 3) := by decide +kernel
theorem dX3_readsOrder_17 : decode cX3_readsOrder 17 = .ok (.aload_n 0, 1) := by decide +kernel
theorem dX3_readsOrder_18 : decode cX3_readsOrder 18 = .ok (.bipush 104, 2) := by decide +kernel
theorem dX3_readsOrder_20 : decode cX3_readsOrder 20 = .ok (.invokevirtual 127, 3) := by decide +kernel
theorem dX3_readsOrder_23 : decode cX3_readsOrder 23 = .ok (.ifCond .ne 12, 3) := by decide +kernel
theorem dX3_readsOrder_26 : decode cX3_readsOrder 26 = .ok (.aload_n 0, 1) := by decide +kernel
theorem dX3_readsOrder_27 : decode cX3_readsOrder 27 = .ok (.bipush 112, 2) := by decide +kernel
theorem dX3_readsOrder_29 : decode cX3_readsOrder 29 = .ok (.invokevirtual 127, 3) := by decide +kernel
theorem dX3_readsOrder_32 : decode cX3_readsOrder 32 = .ok (.ifCond .eq 5, 3) := by decide +kernel
theorem dX3_readsOrder_35 : decode cX3_readsOrder 35 = .ok (.iconst 1, 1) := by decide +kernel
theorem dX3_readsOrder_36 : decode cX3_readsOrder 36 = .ok (.ireturn, 1) := by decide +kernel
theorem dX3_readsOrder_37 : decode cX3_readsOrder 37 = .ok (.aload_n 0, 1) := by decide +kernel
theorem dX3_readsOrder_38 : decode cX3_readsOrder 38 = .ok (.bipush 115, 2) := by decide +kernel
theorem dX3_readsOrder_40 : decode cX3_readsOrder 40 = .ok (.invokevirtual 127, 3) := by decide +kernel
theorem dX3_readsOrder_43 : decode cX3_readsOrder 43 = .ok (.ifCond .eq 28, 3) := by decide +kernel
theorem dX3_readsOrder_46 : decode cX3_readsOrder 46 = .ok (.aload_n 0, 1) := by decide +kernel
theorem dX3_readsOrder_47 : decode cX3_readsOrder 47 = .ok (.aload_n 0, 1) := by decide +kernel
theorem dX3_readsOrder_48 : decode cX3_readsOrder 48 = .ok (.iconst 0, 1) := by decide +kernel
theorem dX3_readsOrder_49 : decode cX3_readsOrder 49 = .ok (.bipush 99, 2) := by decide +kernel
theorem dX3_readsOrder_51 : decode cX3_readsOrder 51 = .ok (.invokevirtual 130, 3) := by decide +kernel
theorem dX3_readsOrder_54 : decode cX3_readsOrder 54 = .ok (.putfield 133, 3) := by decide +kernel
theorem dX3_readsOrder_57 : decode cX3_readsOrder 57 = .ok (.aload_n 0, 1) := by decide +kernel
theorem dX3_readsOrder_58 : decode cX3_readsOrder 58 = .ok (.getfield 133, 3) := by decide +kernel
theorem dX3_readsOrder_61 : decode cX3_readsOrder 61 = .ok (.iconst (-1), 1) := by decide +kernel
theorem dX3_readsOrder_62 : decode cX3_readsOrder 62 = .ok (.if_icmp .eq 7, 3) := by decide +kernel
theorem dX3_readsOrder_65 : decode cX3_readsOrder 65 = .ok (.iconst 1, 1) := by decide +kernel
theorem dX3_readsOrder_66 : decode cX3_readsOrder 66 = .ok (.goto 4, 3) := by decide +kernel
theorem dX3_readsOrder_69 : decode cX3_readsOrder 69 = .ok (.iconst 0, 1) := by decide +kernel
theorem dX3_readsOrder_70 : decode cX3_readsOrder 70 = .ok (.ireturn, 1) := by decide +kernel
theorem dX3_readsOrder_71 : decode cX3_readsOrder 71 = .ok (.aload_n 0, 1) := by decide +kernel
theorem dX3_readsOrder_72 : decode cX3_readsOrder 72 = .ok (.bipush 114, 2) := by decide +kernel
theorem dX3_readsOrder_74 : decode cX3_readsOrder 74 = .ok (.invokevirtual 127, 3) := by decide +kernel
theorem dX3_readsOrder_77 : decode cX3_readsOrder 77 = .ok (.ifCond .eq 60, 3) := by decide +kernel
theorem dX3_readsOrder_80 : decode cX3_readsOrder 80 = .ok (.aload_n 0, 1) := by decide +kernel
theorem dX3_readsOrder_81 : decode cX3_readsOrder 81 = .ok (.aload_n 0, 1) := by decide +kernel
theorem dX3_readsOrder_82 : decode cX3_readsOrder 82 = .ok (.iconst 1, 1) := by decide +kernel
theorem dX3_readsOrder_83 : decode cX3_readsOrder 83 = .ok (.bipush 32, 2) := by decide +kernel
theorem dX3_readsOrder_85 : decode cX3_readsOrder 85 = .ok (.invokevirtual 130, 3) := by decide +kernel
theorem dX3_readsOrder_88 : decode cX3_readsOrder 88 = .ok (.putfield 136, 3) := by decide +kernel
theorem dX3_readsOrder_91 : decode cX3_readsOrder 91 = .ok (.aload_n 0, 1) := by decide +kernel
theorem dX3_readsOrder_92 : decode cX3_readsOrder 92 = .ok (.aload_n 0, 1) := by decide +kernel
theorem dX3_readsOrder_93 : decode cX3_readsOrder 93 = .ok (.getfield 136, 3) := by decide +kernel
theorem dX3_readsOrder_96 : decode cX3_readsOrder 96 = .ok (.iconst (-1), 1) := by decide +kernel
theorem dX3_readsOrder_97 : decode cX3_readsOrder 97 = .ok (.if_icmp .eq 22, 3) := by decide +kernel
theorem dX3_readsOrder_100 : decode cX3_readsOrder 100 = .ok (.aload_n 0, 1) := by decide +kernel
theorem dX3_readsOrder_101 : decode cX3_readsOrder 101 = .ok (.bipush 61, 2) := by decide +kernel
theorem dX3_readsOrder_103 : decode cX3_readsOrder 103 = .ok (.invokevirtual 127, 3) := by decide +kernel
theorem dX3_readsOrder_106 : decode cX3_readsOrder 106 = .ok (.ifCond .eq 13, 3) := by decide +kernel
theorem dX3_readsOrder_109 : decode cX3_readsOrder 109 = .ok (.aload_n 0, 1) := by decide +kernel
theorem dX3_readsOrder_110 : decode cX3_readsOrder 110 = .ok (.iconst 0, 1) := by decide +kernel
theorem dX3_readsOrder_111 : decode cX3_readsOrder 111 = .ok (.bipush 99, 2) := by decide +kernel
theorem dX3_readsOrder_113 : decode cX3_readsOrder 113 = .ok (.invokevirtual 130, 3) := by decide +kernel
theorem dX3_readsOrder_116 : decode cX3_readsOrder 116 = .ok (.goto 4, 3) := by decide +kernel
theorem dX3_readsOrder_119 : decode cX3_readsOrder 119 = .ok (.iconst (-1), 1) := by decide +kernel
theorem dX3_readsOrder_120 : decode cX3_readsOrder 120 = .ok (.putfield 133, 3) := by decide +kernel
theorem dX3_readsOrder_123 : decode cX3_readsOrder 123 = .ok (.aload_n 0, 1) := by decide +kernel
theorem dX3_readsOrder_124 : decode cX3_readsOrder 124 = .ok (.getfield 133, 3) := by decide +kernel
theorem dX3_readsOrder_127 : decode cX3_readsOrder 127 = .ok (.iconst (-1), 1) := by decide +kernel
theorem dX3_readsOrder_128 : decode cX3_readsOrder 128 = .ok (.if_icmp .eq 7, 3) := by decide +kernel
theorem dX3_readsOrder_131 : decode cX3_readsOrder 131 = .ok (.iconst 1, 1) := by decide +kernel
theorem dX3_readsOrder_132 : decode cX3_readsOrder 132 = .ok (.goto 4, 3) := by decide +kernel
theorem dX3_readsOrder_135 : decode cX3_readsOrder 135 = .ok (.iconst 0, 1) := by decide +kernel
theorem dX3_readsOrder_136 : decode cX3_readsOrder 136 = .ok (.ireturn, 1) := by decide +kernel
theorem dX3_readsOrder_137 : decode cX3_readsOrder 137 = .ok (.aload_n 0, 1) := by decide +kernel
theorem dX3_readsOrder_138 : decode cX3_readsOrder 138 = .ok (.bipush 107, 2) := by decide +kernel
theorem dX3_readsOrder_140 : decode cX3_readsOrder 140 = .ok (.invokevirtual 127, 3) := by decide +kernel
theorem dX3_readsOrder_143 : decode cX3_readsOrder 143 = .ok (.ifCond .eq 28, 3) := by decide +kernel
theorem dX3_readsOrder_146 : decode cX3_readsOrder 146 = .ok (.aload_n 0, 1) := by decide +kernel
theorem dX3_readsOrder_147 : decode cX3_readsOrder 147 = .ok (.aload_n 0, 1) := by decide +kernel
theorem dX3_readsOrder_148 : decode cX3_readsOrder 148 = .ok (.iconst 1, 1) := by decide +kernel
theorem dX3_readsOrder_149 : decode cX3_readsOrder 149 = .ok (.bipush 9, 2) := by decide +kernel
theorem dX3_readsOrder_151 : decode cX3_readsOrder 151 = .ok (.invokevirtual 130, 3) := by decide +kernel
theorem dX3_readsOrder_154 : decode cX3_readsOrder 154 = .ok (.putfield 136, 3) := by decide +kernel
theorem dX3_readsOrder_157 : decode cX3_readsOrder 157 = .ok (.aload_n 0, 1) := by decide +kernel
theorem dX3_readsOrder_158 : decode cX3_readsOrder 158 = .ok (.getfield 136, 3) := by decide +kernel
theorem dX3_readsOrder_161 : decode cX3_readsOrder 161 = .ok (.iconst (-1), 1) := by decide +kernel
theorem dX3_readsOrder_162 : decode cX3_readsOrder 162 = .ok (.if_icmp .eq 7, 3) := by decide +kernel
theorem dX3_readsOrder_165 : decode cX3_readsOrder 165 = .ok (.iconst 1, 1) := by decide +kernel
theorem dX3_readsOrder_166 : decode cX3_readsOrder 166 = .ok (.goto 4, 3) := by decide +kernel
theorem dX3_readsOrder_169 : decode cX3_readsOrder 169 = .ok (.iconst 0, 1) := by decide +kernel
theorem dX3_readsOrder_170 : decode cX3_readsOrder 170 = .ok (.ireturn, 1) := by decide +kernel
theorem dX3_readsOrder_171 : decode cX3_readsOrder 171 = .ok (.aload_n 0, 1) := by decide +kernel
theorem dX3_readsOrder_172 : decode cX3_readsOrder 172 = .ok (.aload_n 0, 1) := by decide +kernel
theorem dX3_readsOrder_173 : decode cX3_readsOrder 173 = .ok (.bipush 102, 2) := by decide +kernel
theorem dX3_readsOrder_175 : decode cX3_readsOrder 175 = .ok (.invokevirtual 127, 3) := by decide +kernel
theorem dX3_readsOrder_178 : decode cX3_readsOrder 178 = .ok (.ifCond .ne 30, 3) := by decide +kernel
theorem dX3_readsOrder_181 : decode cX3_readsOrder 181 = .ok (.aload_n 0, 1) := by decide +kernel
theorem dX3_readsOrder_182 : decode cX3_readsOrder 182 = .ok (.bipush 117, 2) := by decide +kernel
theorem dX3_readsOrder_184 : decode cX3_readsOrder 184 = .ok (.invokevirtual 127, 3) := by decide +kernel
theorem dX3_readsOrder_187 : decode cX3_readsOrder 187 = .ok (.ifCond .ne 21, 3) := by decide +kernel
theorem dX3_readsOrder_190 : decode cX3_readsOrder 190 = .ok (.aload_n 0, 1) := by decide +kernel
theorem dX3_readsOrder_191 : decode cX3_readsOrder 191 = .ok (.bipush 101, 2) := by decide +kernel
theorem dX3_readsOrder_193 : decode cX3_readsOrder 193 = .ok (.invokevirtual 127, 3) := by decide +kernel
theorem dX3_readsOrder_196 : decode cX3_readsOrder 196 = .ok (.ifCond .ne 12, 3) := by decide +kernel
theorem dX3_readsOrder_199 : decode cX3_readsOrder 199 = .ok (.aload_n 0, 1) := by decide +kernel
theorem dX3_readsOrder_200 : decode cX3_readsOrder 200 = .ok (.bipush 103, 2) := by decide +kernel
theorem dX3_readsOrder_202 : decode cX3_readsOrder 202 = .ok (.invokevirtual 127, 3) := by decide +kernel
theorem dX3_readsOrder_205 : decode cX3_readsOrder 205 = .ok (.ifCond .eq 13, 3) := by decide +kernel
theorem dX3_readsOrder_208 : decode cX3_readsOrder 208 = .ok (.aload_n 0, 1) := by decide +kernel
theorem dX3_readsOrder_209 : decode cX3_readsOrder 209 = .ok (.iconst 0, 1) := by decide +kernel
theorem dX3_readsOrder_210 : decode cX3_readsOrder 210 = .ok (.bipush 9, 2) := by decide +kernel
theorem dX3_readsOrder_212 : decode cX3_readsOrder 212 = .ok (.invokevirtual 130, 3) := by decide +kernel
theorem dX3_readsOrder_215 : decode cX3_readsOrder 215 = .ok (.goto 4, 3) := by decide +kernel
theorem dX3_readsOrder_218 : decode cX3_readsOrder 218 = .ok (.iconst (-1), 1) := by decide +kernel
theorem dX3_readsOrder_219 : decode cX3_readsOrder 219 = .ok (.putfield 136, 3) := by decide +kernel
theorem dX3_readsOrder_222 : decode cX3_readsOrder 222 = .ok (.aload_n 0, 1) := by decide +kernel
theorem dX3_readsOrder_223 : decode cX3_readsOrder 223 = .ok (.getfield 136, 3) := by decide +kernel
theorem dX3_readsOrder_226 : decode cX3_readsOrder 226 = .ok (.iconst (-1), 1) := by decide +kernel
theorem dX3_readsOrder_227 : decode cX3_readsOrder 227 = .ok (.if_icmp .eq 7, 3) := by decide +kernel
theorem dX3_readsOrder_230 : decode cX3_readsOrder 230 = .ok (.iconst 1, 1) := by decide +kernel
theorem dX3_readsOrder_231 : decode cX3_readsOrder 231 = .ok (.goto 4, 3) := by decide +kernel
theorem dX3_readsOrder_234 : decode cX3_readsOrder 234 = .ok (.iconst 0, 1) := by decide +kernel
theorem dX3_readsOrder_235 : decode cX3_readsOrder 235 = .ok (.ireturn, 1) := by decide +kernel
theorem dX3_areOrders_0 : decode cX3_areOrders 0 = .ok (.aload_n 0, 1) := by decide +kernel
theorem dX3_areOrders_1 : decode cX3_areOrders 1 = .ok (.iconst 0, 1) := by decide +kernel
theorem dX3_areOrders_2 : decode cX3_areOrders 2 = .ok (.putfield 118, 3) := by decide +kernel
theorem dX3_areOrders_5 : decode cX3_areOrders 5 = .ok (.aload_n 0, 1) := by decide +kernel
theorem dX3_areOrders_6 : decode cX3_areOrders 6 = .ok (.invokevirtual 139, 3) := by decide +kernel
theorem dX3_areOrders_9 : decode cX3_areOrders 9 = .ok (.ifCond .eq 27, 3) := by decide +kernel
theorem dX3_areOrders_12 : decode cX3_areOrders 12 = .ok (.aload_n 0, 1) := by decide +kernel
theorem dX3_areOrders_13 : decode cX3_areOrders 13 = .ok (.getfield 118, 3) := by decide +kernel
theorem dX3_areOrders_16 : decode cX3_areOrders 16 = .ok (.aload_n 0, 1) := by decide +kernel
theorem dX3_areOrders_17 : decode cX3_areOrders 17 = .ok (.getfield 115, 3) := by decide +kernel
theorem dX3_areOrders_20 : decode cX3_areOrders 20 = .ok (.if_icmp .ne 5, 3) := by decide +kernel
theorem dX3_areOrders_23 : decode cX3_areOrders 23 = .ok (.iconst 1, 1) := by decide +kernel
theorem dX3_areOrders_24 : decode cX3_areOrders 24 = .ok (.ireturn, 1) := by decide +kernel
theorem dX3_areOrders_25 : decode cX3_areOrders 25 = .ok (.aload_n 0, 1) := by decide +kernel
theorem dX3_areOrders_26 : decode cX3_areOrders 26 = .ok (.bipush 59, 2) := by decide +kernel
theorem dX3_areOrders_28 : decode cX3_areOrders 28 = .ok (.invokevirtual 127, 3) := by decide +kernel
theorem dX3_areOrders_31 : decode cX3_areOrders 31 = .ok (.ifCond .ne (-26), 3) := by decide +kernel
theorem dX3_areOrders_34 : decode cX3_areOrders 34 = .ok (.iconst 0, 1) := by decide +kernel
theorem dX3_areOrders_35 : decode cX3_areOrders 35 = .ok (.ireturn, 1) := by decide +kernel
theorem dX3_areOrders_36 : decode cX3_areOrders 36 = .ok (.iconst 0, 1) := by decide +kernel
theorem dX3_areOrders_37 : decode cX3_areOrders 37 = .ok (.ireturn, 1) := by decide +kernel
theorem dX3_firstError_0 : decode cX3_firstError 0 = .ok (.aload_n 0, 1) := by decide +kernel
theorem dX3_firstError_1 : decode cX3_firstError 1 = .ok (.iconst 0, 1) := by decide +kernel
theorem dX3_firstError_2 : decode cX3_firstError 2 = .ok (.putfield 16, 3) := by decide +kernel
theorem dX3_firstError_5 : decode cX3_firstError 5 = .ok (.aload_n 0, 1) := by decide +kernel
theorem dX3_firstError_6 : decode cX3_firstError 6 = .ok (.invokevirtual 142, 3) := by decide +kernel
theorem dX3_firstError_9 : decode cX3_firstError 9 = .ok (.pop, 1) := by decide +kernel
theorem dX3_firstError_10 : decode cX3_firstError 10 = .ok (.aload_n 0, 1) := by decide +kernel
theorem dX3_firstError_11 : decode cX3_firstError 11 = .ok (.getfield 118, 3) := by decide +kernel
theorem dX3_firstError_14 : decode cX3_firstError 14 = .ok (.ireturn, 1) := by decide +kernel
theorem dX3_can_0 : decode cX3_can 0 = .ok (.aload_n 0, 1) := by decide +kernel
theorem dX3_can_1 : decode cX3_can 1 = .ok (.getfield 124, 3) := by decide +kernel
theorem dX3_can_4 : decode cX3_can 4 = .ok (.tableswitch 172 98 115 #[88, 172, 172, 124, 172, 172, 93, 172, 172, 156, 172, 172, 172, 172, 156, 172, 115, 109], 88) := by decide +kernel
theorem dX3_can_92 : decode cX3_can 92 = .ok (.aload_n 0, 1) := by decide +kernel
theorem dX3_can_93 : decode cX3_can 93 = .ok (.invokevirtual 60, 3) := by decide +kernel
theorem dX3_can_96 : decode cX3_can 96 = .ok (.ireturn, 1) := by decide +kernel
theorem dX3_can_97 : decode cX3_can 97 = .ok (.aload_n 0, 1) := by decide +kernel
theorem dX3_can_98 : decode cX3_can 98 = .ok (.getfield 7, 3) := by decide +kernel
theorem dX3_can_101 : decode cX3_can 101 = .ok (.iconst 1, 1) := by decide +kernel
theorem dX3_can_102 : decode cX3_can 102 = .ok (.iaload, 1) := by decide +kernel
theorem dX3_can_103 : decode cX3_can 103 = .ok (.iconst (-1), 1) := by decide +kernel
theorem dX3_can_104 : decode cX3_can 104 = .ok (.if_icmp .eq 7, 3) := by decide +kernel
theorem dX3_can_107 : decode cX3_can 107 = .ok (.iconst 1, 1) := by decide +kernel
theorem dX3_can_108 : decode cX3_can 108 = .ok (.goto 4, 3) := by decide +kernel
theorem dX3_can_111 : decode cX3_can 111 = .ok (.iconst 0, 1) := by decide +kernel
theorem dX3_can_112 : decode cX3_can 112 = .ok (.ireturn, 1) := by decide +kernel
theorem dX3_can_113 : decode cX3_can 113 = .ok (.aload_n 0, 1) := by decide +kernel
theorem dX3_can_114 : decode cX3_can 114 = .ok (.iconst 1, 1) := by decide +kernel
theorem dX3_can_115 : decode cX3_can 115 = .ok (.invokevirtual 76, 3) := by decide +kernel
theorem dX3_can_118 : decode cX3_can 118 = .ok (.ireturn, 1) := by decide +kernel
theorem dX3_can_119 : decode cX3_can 119 = .ok (.aload_n 0, 1) := by decide +kernel
theorem dX3_can_120 : decode cX3_can 120 = .ok (.aload_n 0, 1) := by decide +kernel
theorem dX3_can_121 : decode cX3_can 121 = .ok (.getfield 136, 3) := by decide +kernel
theorem dX3_can_124 : decode cX3_can 124 = .ok (.invokevirtual 76, 3) := by decide +kernel
theorem dX3_can_127 : decode cX3_can 127 = .ok (.ireturn, 1) := by decide +kernel
theorem dX3_can_128 : decode cX3_can 128 = .ok (.aload_n 0, 1) := by decide +kernel
theorem dX3_can_129 : decode cX3_can 129 = .ok (.aload_n 0, 1) := by decide +kernel
theorem dX3_can_130 : decode cX3_can 130 = .ok (.getfield 136, 3) := by decide +kernel
theorem dX3_can_133 : decode cX3_can 133 = .ok (.invokevirtual 82, 3) := by decide +kernel
theorem dX3_can_136 : decode cX3_can 136 = .ok (.ifCond .eq 22, 3) := by decide +kernel
theorem dX3_can_139 : decode cX3_can 139 = .ok (.aload_n 0, 1) := by decide +kernel
theorem dX3_can_140 : decode cX3_can 140 = .ok (.getfield 7, 3) := by decide +kernel
theorem dX3_can_143 : decode cX3_can 143 = .ok (.bipush 7, 2) := by decide +kernel
theorem dX3_can_145 : decode cX3_can 145 = .ok (.aload_n 0, 1) := by decide +kernel
theorem dX3_can_146 : decode cX3_can 146 = .ok (.getfield 136, 3) := by decide +kernel
theorem dX3_can_149 : decode cX3_can 149 = .ok (.iadd, 1) := by decide +kernel
theorem dX3_can_150 : decode cX3_can 150 = .ok (.iaload, 1) := by decide +kernel
theorem dX3_can_151 : decode cX3_can 151 = .ok (.ifCond .ne 7, 3) := by decide +kernel
theorem dX3_can_154 : decode cX3_can 154 = .ok (.iconst 1, 1) := by decide +kernel
theorem dX3_can_155 : decode cX3_can 155 = .ok (.goto 4, 3) := by decide +kernel
theorem dX3_can_158 : decode cX3_can 158 = .ok (.iconst 0, 1) := by decide +kernel
theorem dX3_can_159 : decode cX3_can 159 = .ok (.ireturn, 1) := by decide +kernel
theorem dX3_can_160 : decode cX3_can 160 = .ok (.aload_n 0, 1) := by decide +kernel
theorem dX3_can_161 : decode cX3_can 161 = .ok (.getfield 7, 3) := by decide +kernel
theorem dX3_can_164 : decode cX3_can 164 = .ok (.iconst 5, 1) := by decide +kernel
theorem dX3_can_165 : decode cX3_can 165 = .ok (.iaload, 1) := by decide +kernel
theorem dX3_can_166 : decode cX3_can 166 = .ok (.iconst (-1), 1) := by decide +kernel
theorem dX3_can_167 : decode cX3_can 167 = .ok (.if_icmp .eq 7, 3) := by decide +kernel
theorem dX3_can_170 : decode cX3_can 170 = .ok (.iconst 1, 1) := by decide +kernel
theorem dX3_can_171 : decode cX3_can 171 = .ok (.goto 4, 3) := by decide +kernel
theorem dX3_can_174 : decode cX3_can 174 = .ok (.iconst 0, 1) := by decide +kernel
theorem dX3_can_175 : decode cX3_can 175 = .ok (.ireturn, 1) := by decide +kernel
theorem dX3_can_176 : decode cX3_can 176 = .ok (.aload_n 0, 1) := by decide +kernel
theorem dX3_can_177 : decode cX3_can 177 = .ok (.aload_n 0, 1) := by decide +kernel
theorem dX3_can_178 : decode cX3_can 178 = .ok (.getfield 136, 3) := by decide +kernel
theorem dX3_can_181 : decode cX3_can 181 = .ok (.invokevirtual 82, 3) := by decide +kernel
theorem dX3_can_184 : decode cX3_can 184 = .ok (.ireturn, 1) := by decide +kernel
theorem dX3_does_0 : decode cX3_does 0 = .ok (.aload_n 0, 1) := by decide +kernel
theorem dX3_does_1 : decode cX3_does 1 = .ok (.getfield 124, 3) := by decide +kernel
theorem dX3_does_4 : decode cX3_does 4 = .ok (.tableswitch 187 98 115 #[88, 187, 187, 144, 187, 175, 96, 187, 187, 163, 187, 187, 187, 187, 155, 187, 116, 104], 88) := by decide +kernel
theorem dX3_does_92 : decode cX3_does 92 = .ok (.aload_n 0, 1) := by decide +kernel
theorem dX3_does_93 : decode cX3_does 93 = .ok (.invokevirtual 70, 3) := by decide +kernel
theorem dX3_does_96 : decode cX3_does 96 = .ok (.pop, 1) := by decide +kernel
theorem dX3_does_97 : decode cX3_does 97 = .ok (.goto 120, 3) := by decide +kernel
theorem dX3_does_100 : decode cX3_does 100 = .ok (.aload_n 0, 1) := by decide +kernel
theorem dX3_does_101 : decode cX3_does 101 = .ok (.invokevirtual 42, 3) := by decide +kernel
theorem dX3_does_104 : decode cX3_does 104 = .ok (.pop, 1) := by decide +kernel
theorem dX3_does_105 : decode cX3_does 105 = .ok (.goto 112, 3) := by decide +kernel
theorem dX3_does_108 : decode cX3_does 108 = .ok (.aload_n 0, 1) := by decide +kernel
theorem dX3_does_109 : decode cX3_does 109 = .ok (.aload_n 0, 1) := by decide +kernel
theorem dX3_does_110 : decode cX3_does 110 = .ok (.getfield 133, 3) := by decide +kernel
theorem dX3_does_113 : decode cX3_does 113 = .ok (.invokevirtual 79, 3) := by decide +kernel
theorem dX3_does_116 : decode cX3_does 116 = .ok (.pop, 1) := by decide +kernel
theorem dX3_does_117 : decode cX3_does 117 = .ok (.goto 100, 3) := by decide +kernel
theorem dX3_does_120 : decode cX3_does 120 = .ok (.iconst 0, 1) := by decide +kernel
theorem dX3_does_121 : decode cX3_does 121 = .ok (.istore_n 1, 1) := by decide +kernel
theorem dX3_does_122 : decode cX3_does 122 = .ok (.iload_n 1, 1) := by decide +kernel
theorem dX3_does_123 : decode cX3_does 123 = .ok (.aload_n 0, 1) := by decide +kernel
theorem dX3_does_124 : decode cX3_does 124 = .ok (.getfield 136, 3) := by decide +kernel
theorem dX3_does_127 : decode cX3_does 127 = .ok (.if_icmp .ge 18, 3) := by decide +kernel
theorem dX3_does_130 : decode cX3_does 130 = .ok (.aload_n 0, 1) := by decide +kernel
theorem dX3_does_131 : decode cX3_does 131 = .ok (.aload_n 0, 1) := by decide +kernel
theorem dX3_does_132 : decode cX3_does 132 = .ok (.getfield 133, 3) := by decide +kernel
theorem dX3_does_135 : decode cX3_does 135 = .ok (.invokevirtual 79, 3) := by decide +kernel
theorem dX3_does_138 : decode cX3_does 138 = .ok (.pop, 1) := by decide +kernel
theorem dX3_does_139 : decode cX3_does 139 = .ok (.iinc 1 1, 3) := by decide +kernel
theorem dX3_does_142 : decode cX3_does 142 = .ok (.goto (-20), 3) := by decide +kernel
theorem dX3_does_145 : decode cX3_does 145 = .ok (.goto 72, 3) := by decide +kernel
theorem dX3_does_148 : decode cX3_does 148 = .ok (.aload_n 0, 1) := by decide +kernel
theorem dX3_does_149 : decode cX3_does 149 = .ok (.aload_n 0, 1) := by decide +kernel
theorem dX3_does_150 : decode cX3_does 150 = .ok (.getfield 136, 3) := by decide +kernel
theorem dX3_does_153 : decode cX3_does 153 = .ok (.invokevirtual 35, 3) := by decide +kernel
theorem dX3_does_156 : decode cX3_does 156 = .ok (.goto 61, 3) := by decide +kernel
theorem dX3_does_159 : decode cX3_does 159 = .ok (.aload_n 0, 1) := by decide +kernel
theorem dX3_does_160 : decode cX3_does 160 = .ok (.invokevirtual 100, 3) := by decide +kernel
theorem dX3_does_163 : decode cX3_does 163 = .ok (.pop, 1) := by decide +kernel
theorem dX3_does_164 : decode cX3_does 164 = .ok (.goto 53, 3) := by decide +kernel
theorem dX3_does_167 : decode cX3_does 167 = .ok (.aload_n 0, 1) := by decide +kernel
theorem dX3_does_168 : decode cX3_does 168 = .ok (.aload_n 0, 1) := by decide +kernel
theorem dX3_does_169 : decode cX3_does 169 = .ok (.getfield 136, 3) := by decide +kernel
theorem dX3_does_172 : decode cX3_does 172 = .ok (.invokevirtual 103, 3) := by decide +kernel
theorem dX3_does_175 : decode cX3_does 175 = .ok (.pop, 1) := by decide +kernel
theorem dX3_does_176 : decode cX3_does 176 = .ok (.goto 41, 3) := by decide +kernel
theorem dX3_does_179 : decode cX3_does 179 = .ok (.aload_n 0, 1) := by decide +kernel
theorem dX3_does_180 : decode cX3_does 180 = .ok (.aload_n 0, 1) := by decide +kernel
theorem dX3_does_181 : decode cX3_does 181 = .ok (.getfield 136, 3) := by decide +kernel
theorem dX3_does_184 : decode cX3_does 184 = .ok (.invokevirtual 97, 3) := by decide +kernel
theorem dX3_does_187 : decode cX3_does 187 = .ok (.pop, 1) := by decide +kernel
theorem dX3_does_188 : decode cX3_does 188 = .ok (.goto 29, 3) := by decide +kernel
theorem dX3_does_191 : decode cX3_does 191 = .ok (.aload_n 0, 1) := by decide +kernel
theorem dX3_does_192 : decode cX3_does 192 = .ok (.getfield 7, 3) := by decide +kernel
theorem dX3_does_195 : decode cX3_does 195 = .ok (.bipush 7, 2) := by decide +kernel
theorem dX3_does_197 : decode cX3_does 197 = .ok (.aload_n 0, 1) := by decide +kernel
theorem dX3_does_198 : decode cX3_does 198 = .ok (.getfield 136, 3) := by decide +kernel
theorem dX3_does_201 : decode cX3_does 201 = .ok (.iadd, 1) := by decide +kernel
theorem dX3_does_202 : decode cX3_does 202 = .ok (.aload_n 0, 1) := by decide +kernel
theorem dX3_does_203 : decode cX3_does 203 = .ok (.getfield 124, 3) := by decide +kernel
theorem dX3_does_206 : decode cX3_does 206 = .ok (.bipush 102, 2) := by decide +kernel
theorem dX3_does_208 : decode cX3_does 208 = .ok (.if_icmp .ne 7, 3) := by decide +kernel
theorem dX3_does_211 : decode cX3_does 211 = .ok (.iconst 1, 1) := by decide +kernel
theorem dX3_does_212 : decode cX3_does 212 = .ok (.goto 4, 3) := by decide +kernel
theorem dX3_does_215 : decode cX3_does 215 = .ok (.iconst 0, 1) := by decide +kernel
theorem dX3_does_216 : decode cX3_does 216 = .ok (.iastore, 1) := by decide +kernel
theorem dX3_does_217 : decode cX3_does 217 = .ok (.return_, 1) := by decide +kernel
theorem dX3_run_0 : decode cX3_run 0 = .ok (.aload_n 0, 1) := by decide +kernel
theorem dX3_run_1 : decode cX3_run 1 = .ok (.aload_n 0, 1) := by decide +kernel
theorem dX3_run_2 : decode cX3_run 2 = .ok (.invokevirtual 142, 3) := by decide +kernel
theorem dX3_run_5 : decode cX3_run 5 = .ok (.ifCond .eq 7, 3) := by decide +kernel
theorem dX3_run_8 : decode cX3_run 8 = .ok (.iconst 0, 1) := by decide +kernel
theorem dX3_run_9 : decode cX3_run 9 = .ok (.goto 4, 3) := by decide +kernel
theorem dX3_run_12 : decode cX3_run 12 = .ok (.iconst 1, 1) := by decide +kernel
theorem dX3_run_13 : decode cX3_run 13 = .ok (.invokevirtual 64, 3) := by decide +kernel
theorem dX3_run_16 : decode cX3_run 16 = .ok (.ifCond .ne 5, 3) := by decide +kernel
theorem dX3_run_19 : decode cX3_run 19 = .ok (.iconst 0, 1) := by decide +kernel
theorem dX3_run_20 : decode cX3_run 20 = .ok (.ireturn, 1) := by decide +kernel
theorem dX3_run_21 : decode cX3_run 21 = .ok (.aload_n 0, 1) := by decide +kernel
theorem dX3_run_22 : decode cX3_run 22 = .ok (.invokevirtual 67, 3) := by decide +kernel
theorem dX3_run_25 : decode cX3_run 25 = .ok (.aload_n 0, 1) := by decide +kernel
theorem dX3_run_26 : decode cX3_run 26 = .ok (.iconst 0, 1) := by decide +kernel
theorem dX3_run_27 : decode cX3_run 27 = .ok (.putfield 118, 3) := by decide +kernel
theorem dX3_run_30 : decode cX3_run 30 = .ok (.iconst 0, 1) := by decide +kernel
theorem dX3_run_31 : decode cX3_run 31 = .ok (.istore_n 1, 1) := by decide +kernel
theorem dX3_run_32 : decode cX3_run 32 = .ok (.aload_n 0, 1) := by decide +kernel
theorem dX3_run_33 : decode cX3_run 33 = .ok (.invokevirtual 139, 3) := by decide +kernel
theorem dX3_run_36 : decode cX3_run 36 = .ok (.ifCond .eq 27, 3) := by decide +kernel
theorem dX3_run_39 : decode cX3_run 39 = .ok (.aload_n 0, 1) := by decide +kernel
theorem dX3_run_40 : decode cX3_run 40 = .ok (.invokevirtual 145, 3) := by decide +kernel
theorem dX3_run_43 : decode cX3_run 43 = .ok (.ifCond .eq 20, 3) := by decide +kernel
theorem dX3_run_46 : decode cX3_run 46 = .ok (.aload_n 0, 1) := by decide +kernel
theorem dX3_run_47 : decode cX3_run 47 = .ok (.invokevirtual 148, 3) := by decide +kernel
theorem dX3_run_50 : decode cX3_run 50 = .ok (.iinc 1 1, 3) := by decide +kernel
theorem dX3_run_53 : decode cX3_run 53 = .ok (.aload_n 0, 1) := by decide +kernel
theorem dX3_run_54 : decode cX3_run 54 = .ok (.bipush 59, 2) := by decide +kernel
theorem dX3_run_56 : decode cX3_run 56 = .ok (.invokevirtual 127, 3) := by decide +kernel
theorem dX3_run_59 : decode cX3_run 59 = .ok (.pop, 1) := by decide +kernel
theorem dX3_run_60 : decode cX3_run 60 = .ok (.goto (-28), 3) := by decide +kernel
theorem dX3_run_63 : decode cX3_run 63 = .ok (.aload_n 0, 1) := by decide +kernel
theorem dX3_run_64 : decode cX3_run 64 = .ok (.iconst 0, 1) := by decide +kernel
theorem dX3_run_65 : decode cX3_run 65 = .ok (.putfield 115, 3) := by decide +kernel
theorem dX3_run_68 : decode cX3_run 68 = .ok (.iload_n 1, 1) := by decide +kernel
theorem dX3_run_69 : decode cX3_run 69 = .ok (.ireturn, 1) := by decide +kernel
theorem dX3_undo_0 : decode cX3_undo 0 = .ok (.aload_n 0, 1) := by decide +kernel
theorem dX3_undo_1 : decode cX3_undo 1 = .ok (.aload_n 0, 1) := by decide +kernel
theorem dX3_undo_2 : decode cX3_undo 2 = .ok (.getfield 53, 3) := by decide +kernel
theorem dX3_undo_5 : decode cX3_undo 5 = .ok (.ifCond .le 7, 3) := by decide +kernel
theorem dX3_undo_8 : decode cX3_undo 8 = .ok (.iconst 0, 1) := by decide +kernel
theorem dX3_undo_9 : decode cX3_undo 9 = .ok (.goto 4, 3) := by decide +kernel
theorem dX3_undo_12 : decode cX3_undo 12 = .ok (.iconst 1, 1) := by decide +kernel
theorem dX3_undo_13 : decode cX3_undo 13 = .ok (.invokevirtual 64, 3) := by decide +kernel
theorem dX3_undo_16 : decode cX3_undo 16 = .ok (.ifCond .ne 5, 3) := by decide +kernel
theorem dX3_undo_19 : decode cX3_undo 19 = .ok (.iconst 0, 1) := by decide +kernel
theorem dX3_undo_20 : decode cX3_undo 20 = .ok (.ireturn, 1) := by decide +kernel
theorem dX3_undo_21 : decode cX3_undo 21 = .ok (.aload_n 0, 1) := by decide +kernel
theorem dX3_undo_22 : decode cX3_undo 22 = .ok (.aload_n 0, 1) := by decide +kernel
theorem dX3_undo_23 : decode cX3_undo 23 = .ok (.getfield 53, 3) := by decide +kernel
theorem dX3_undo_26 : decode cX3_undo 26 = .ok (.iconst 0, 1) := by decide +kernel
theorem dX3_undo_27 : decode cX3_undo 27 = .ok (.invokevirtual 56, 3) := by decide +kernel
theorem dX3_undo_30 : decode cX3_undo 30 = .ok (.aload_n 0, 1) := by decide +kernel
theorem dX3_undo_31 : decode cX3_undo 31 = .ok (.dup, 1) := by decide +kernel
theorem dX3_undo_32 : decode cX3_undo 32 = .ok (.getfield 53, 3) := by decide +kernel
theorem dX3_undo_35 : decode cX3_undo 35 = .ok (.iconst 1, 1) := by decide +kernel
theorem dX3_undo_36 : decode cX3_undo 36 = .ok (.isub, 1) := by decide +kernel
theorem dX3_undo_37 : decode cX3_undo 37 = .ok (.putfield 53, 3) := by decide +kernel
theorem dX3_undo_40 : decode cX3_undo 40 = .ok (.aload_n 0, 1) := by decide +kernel
theorem dX3_undo_41 : decode cX3_undo 41 = .ok (.getfield 53, 3) := by decide +kernel
theorem dX3_undo_44 : decode cX3_undo 44 = .ok (.ireturn, 1) := by decide +kernel
theorem dX3_savedStates_0 : decode cX3_savedStates 0 = .ok (.aload_n 0, 1) := by decide +kernel
theorem dX3_savedStates_1 : decode cX3_savedStates 1 = .ok (.aload_n 0, 1) := by decide +kernel
theorem dX3_savedStates_2 : decode cX3_savedStates 2 = .ok (.getfield 53, 3) := by decide +kernel
theorem dX3_savedStates_5 : decode cX3_savedStates 5 = .ok (.invokevirtual 88, 3) := by decide +kernel
theorem dX3_savedStates_8 : decode cX3_savedStates 8 = .ok (.ireturn, 1) := by decide +kernel
theorem dX3_mix_0 : decode cX3_mix 0 = .ok (.aload_n 0, 1) := by decide +kernel
theorem dX3_mix_1 : decode cX3_mix 1 = .ok (.ldc2_w 151, 3) := by decide +kernel
theorem dX3_mix_4 : decode cX3_mix 4 = .ok (.aload_n 0, 1) := by decide +kernel
theorem dX3_mix_5 : decode cX3_mix 5 = .ok (.getfield 153, 3) := by decide +kernel
theorem dX3_mix_8 : decode cX3_mix 8 = .ok (.lmul, 1) := by decide +kernel
theorem dX3_mix_9 : decode cX3_mix 9 = .ok (.lload_n 1, 1) := by decide +kernel
theorem dX3_mix_10 : decode cX3_mix 10 = .ok (.ladd, 1) := by decide +kernel
theorem dX3_mix_11 : decode cX3_mix 11 = .ok (.putfield 153, 3) := by decide +kernel
theorem dX3_mix_14 : decode cX3_mix 14 = .ok (.return_, 1) := by decide +kernel
theorem dX3_digest_0 : decode cX3_digest 0 = .ok (.aload_n 0, 1) := by decide +kernel
theorem dX3_digest_1 : decode cX3_digest 1 = .ok (.iconst 0, 1) := by decide +kernel
theorem dX3_digest_2 : decode cX3_digest 2 = .ok (.putfield 16, 3) := by decide +kernel
theorem dX3_digest_5 : decode cX3_digest 5 = .ok (.aload_n 0, 1) := by decide +kernel
theorem dX3_digest_6 : decode cX3_digest 6 = .ok (.ldc2_w 157, 3) := by decide +kernel
theorem dX3_digest_9 : decode cX3_digest 9 = .ok (.putfield 153, 3) := by decide +kernel
theorem dX3_digest_12 : decode cX3_digest 12 = .ok (.aload_n 0, 1) := by decide +kernel
theorem dX3_digest_13 : decode cX3_digest 13 = .ok (.aload_n 0, 1) := by decide +kernel
theorem dX3_digest_14 : decode cX3_digest 14 = .ok (.getfield 7, 3) := by decide +kernel
theorem dX3_digest_17 : decode cX3_digest 17 = .ok (.iconst 0, 1) := by decide +kernel
theorem dX3_digest_18 : decode cX3_digest 18 = .ok (.iaload, 1) := by decide +kernel
theorem dX3_digest_19 : decode cX3_digest 19 = .ok (.i2l, 1) := by decide +kernel
theorem dX3_digest_20 : decode cX3_digest 20 = .ok (.invokevirtual 159, 3) := by decide +kernel
theorem dX3_digest_23 : decode cX3_digest 23 = .ok (.aload_n 0, 1) := by decide +kernel
theorem dX3_digest_24 : decode cX3_digest 24 = .ok (.aload_n 0, 1) := by decide +kernel
theorem dX3_digest_25 : decode cX3_digest 25 = .ok (.getfield 7, 3) := by decide +kernel
theorem dX3_digest_28 : decode cX3_digest 28 = .ok (.iconst 1, 1) := by decide +kernel
theorem dX3_digest_29 : decode cX3_digest 29 = .ok (.iaload, 1) := by decide +kernel
theorem dX3_digest_30 : decode cX3_digest 30 = .ok (.i2l, 1) := by decide +kernel
theorem dX3_digest_31 : decode cX3_digest 31 = .ok (.invokevirtual 159, 3) := by decide +kernel
theorem dX3_digest_34 : decode cX3_digest 34 = .ok (.aload_n 0, 1) := by decide +kernel
theorem dX3_digest_35 : decode cX3_digest 35 = .ok (.aload_n 0, 1) := by decide +kernel
theorem dX3_digest_36 : decode cX3_digest 36 = .ok (.getfield 7, 3) := by decide +kernel
theorem dX3_digest_39 : decode cX3_digest 39 = .ok (.iconst 2, 1) := by decide +kernel
theorem dX3_digest_40 : decode cX3_digest 40 = .ok (.iaload, 1) := by decide +kernel
theorem dX3_digest_41 : decode cX3_digest 41 = .ok (.i2l, 1) := by decide +kernel
theorem dX3_digest_42 : decode cX3_digest 42 = .ok (.invokevirtual 159, 3) := by decide +kernel
theorem dX3_digest_45 : decode cX3_digest 45 = .ok (.aload_n 0, 1) := by decide +kernel
theorem dX3_digest_46 : decode cX3_digest 46 = .ok (.aload_n 0, 1) := by decide +kernel
theorem dX3_digest_47 : decode cX3_digest 47 = .ok (.iconst (-1), 1) := by decide +kernel
theorem dX3_digest_48 : decode cX3_digest 48 = .ok (.invokevirtual 32, 3) := by decide +kernel
theorem dX3_digest_51 : decode cX3_digest 51 = .ok (.i2l, 1) := by decide +kernel
theorem dX3_digest_52 : decode cX3_digest 52 = .ok (.invokevirtual 159, 3) := by decide +kernel
theorem dX3_digest_55 : decode cX3_digest 55 = .ok (.aload_n 0, 1) := by decide +kernel
theorem dX3_digest_56 : decode cX3_digest 56 = .ok (.aload_n 0, 1) := by decide +kernel
theorem dX3_digest_57 : decode cX3_digest 57 = .ok (.getfield 7, 3) := by decide +kernel
theorem dX3_digest_60 : decode cX3_digest 60 = .ok (.iconst 3, 1) := by decide +kernel
theorem dX3_digest_61 : decode cX3_digest 61 = .ok (.iaload, 1) := by decide +kernel
theorem dX3_digest_62 : decode cX3_digest 62 = .ok (.i2l, 1) := by decide +kernel
theorem dX3_digest_63 : decode cX3_digest 63 = .ok (.invokevirtual 159, 3) := by decide +kernel
theorem dX3_digest_66 : decode cX3_digest 66 = .ok (.aload_n 0, 1) := by decide +kernel
theorem dX3_digest_67 : decode cX3_digest 67 = .ok (.aload_n 0, 1) := by decide +kernel
theorem dX3_digest_68 : decode cX3_digest 68 = .ok (.getfield 7, 3) := by decide +kernel
theorem dX3_digest_71 : decode cX3_digest 71 = .ok (.iconst 4, 1) := by decide +kernel
theorem dX3_digest_72 : decode cX3_digest 72 = .ok (.iaload, 1) := by decide +kernel
theorem dX3_digest_73 : decode cX3_digest 73 = .ok (.i2l, 1) := by decide +kernel
theorem dX3_digest_74 : decode cX3_digest 74 = .ok (.invokevirtual 159, 3) := by decide +kernel
theorem dX3_digest_77 : decode cX3_digest 77 = .ok (.aload_n 0, 1) := by decide +kernel
theorem dX3_digest_78 : decode cX3_digest 78 = .ok (.aload_n 0, 1) := by decide +kernel
theorem dX3_digest_79 : decode cX3_digest 79 = .ok (.getfield 7, 3) := by decide +kernel
theorem dX3_digest_82 : decode cX3_digest 82 = .ok (.iconst 5, 1) := by decide +kernel
theorem dX3_digest_83 : decode cX3_digest 83 = .ok (.iaload, 1) := by decide +kernel
theorem dX3_digest_84 : decode cX3_digest 84 = .ok (.i2l, 1) := by decide +kernel
theorem dX3_digest_85 : decode cX3_digest 85 = .ok (.invokevirtual 159, 3) := by decide +kernel
theorem dX3_digest_88 : decode cX3_digest 88 = .ok (.aload_n 0, 1) := by decide +kernel
theorem dX3_digest_89 : decode cX3_digest 89 = .ok (.aload_n 0, 1) := by decide +kernel
theorem dX3_digest_90 : decode cX3_digest 90 = .ok (.getfield 7, 3) := by decide +kernel
theorem dX3_digest_93 : decode cX3_digest 93 = .ok (.bipush 6, 2) := by decide +kernel
theorem dX3_digest_95 : decode cX3_digest 95 = .ok (.iaload, 1) := by decide +kernel
theorem dX3_digest_96 : decode cX3_digest 96 = .ok (.i2l, 1) := by decide +kernel
theorem dX3_digest_97 : decode cX3_digest 97 = .ok (.invokevirtual 159, 3) := by decide +kernel
theorem dX3_digest_100 : decode cX3_digest 100 = .ok (.aload_n 0, 1) := by decide +kernel
theorem dX3_digest_101 : decode cX3_digest 101 = .ok (.aload_n 0, 1) := by decide +kernel
theorem dX3_digest_102 : decode cX3_digest 102 = .ok (.invokevirtual 106, 3) := by decide +kernel
theorem dX3_digest_105 : decode cX3_digest 105 = .ok (.i2l, 1) := by decide +kernel
theorem dX3_digest_106 : decode cX3_digest 106 = .ok (.invokevirtual 159, 3) := by decide +kernel
theorem dX3_digest_109 : decode cX3_digest 109 = .ok (.aload_n 0, 1) := by decide +kernel
theorem dX3_digest_110 : decode cX3_digest 110 = .ok (.aload_n 0, 1) := by decide +kernel
theorem dX3_digest_111 : decode cX3_digest 111 = .ok (.invokevirtual 46, 3) := by decide +kernel
theorem dX3_digest_114 : decode cX3_digest 114 = .ok (.i2l, 1) := by decide +kernel
theorem dX3_digest_115 : decode cX3_digest 115 = .ok (.invokevirtual 159, 3) := by decide +kernel
theorem dX3_digest_118 : decode cX3_digest 118 = .ok (.aload_n 0, 1) := by decide +kernel
theorem dX3_digest_119 : decode cX3_digest 119 = .ok (.aload_n 0, 1) := by decide +kernel
theorem dX3_digest_120 : decode cX3_digest 120 = .ok (.invokevirtual 109, 3) := by decide +kernel
theorem dX3_digest_123 : decode cX3_digest 123 = .ok (.i2l, 1) := by decide +kernel
theorem dX3_digest_124 : decode cX3_digest 124 = .ok (.invokevirtual 159, 3) := by decide +kernel
theorem dX3_digest_127 : decode cX3_digest 127 = .ok (.iconst 0, 1) := by decide +kernel
theorem dX3_digest_128 : decode cX3_digest 128 = .ok (.istore_n 1, 1) := by decide +kernel
theorem dX3_digest_129 : decode cX3_digest 129 = .ok (.iload_n 1, 1) := by decide +kernel
theorem dX3_digest_130 : decode cX3_digest 130 = .ok (.aload_n 0, 1) := by decide +kernel
theorem dX3_digest_131 : decode cX3_digest 131 = .ok (.getfield 7, 3) := by decide +kernel
theorem dX3_digest_134 : decode cX3_digest 134 = .ok (.iconst 0, 1) := by decide +kernel
theorem dX3_digest_135 : decode cX3_digest 135 = .ok (.iaload, 1) := by decide +kernel
theorem dX3_digest_136 : decode cX3_digest 136 = .ok (.if_icmp .ge 107, 3) := by decide +kernel
theorem dX3_digest_139 : decode cX3_digest 139 = .ok (.aload_n 0, 1) := by decide +kernel
theorem dX3_digest_140 : decode cX3_digest 140 = .ok (.iload_n 1, 1) := by decide +kernel
theorem dX3_digest_141 : decode cX3_digest 141 = .ok (.invokevirtual 32, 3) := by decide +kernel
theorem dX3_digest_144 : decode cX3_digest 144 = .ok (.istore_n 2, 1) := by decide +kernel
theorem dX3_digest_145 : decode cX3_digest 145 = .ok (.aload_n 0, 1) := by decide +kernel
theorem dX3_digest_146 : decode cX3_digest 146 = .ok (.iload_n 2, 1) := by decide +kernel
theorem dX3_digest_147 : decode cX3_digest 147 = .ok (.i2l, 1) := by decide +kernel
theorem dX3_digest_148 : decode cX3_digest 148 = .ok (.invokevirtual 159, 3) := by decide +kernel
theorem dX3_digest_151 : decode cX3_digest 151 = .ok (.aload_n 0, 1) := by decide +kernel
theorem dX3_digest_152 : decode cX3_digest 152 = .ok (.aload_n 0, 1) := by decide +kernel
theorem dX3_digest_153 : decode cX3_digest 153 = .ok (.getfield 7, 3) := by decide +kernel
theorem dX3_digest_156 : decode cX3_digest 156 = .ok (.bipush 7, 2) := by decide +kernel
theorem dX3_digest_158 : decode cX3_digest 158 = .ok (.iload_n 1, 1) := by decide +kernel
theorem dX3_digest_159 : decode cX3_digest 159 = .ok (.iadd, 1) := by decide +kernel
theorem dX3_digest_160 : decode cX3_digest 160 = .ok (.iaload, 1) := by decide +kernel
theorem dX3_digest_161 : decode cX3_digest 161 = .ok (.i2l, 1) := by decide +kernel
theorem dX3_digest_162 : decode cX3_digest 162 = .ok (.invokevirtual 159, 3) := by decide +kernel
theorem dX3_digest_165 : decode cX3_digest 165 = .ok (.aload_n 0, 1) := by decide +kernel
theorem dX3_digest_166 : decode cX3_digest 166 = .ok (.aload_n 0, 1) := by decide +kernel
theorem dX3_digest_167 : decode cX3_digest 167 = .ok (.getfield 7, 3) := by decide +kernel
theorem dX3_digest_170 : decode cX3_digest 170 = .ok (.bipush 17, 2) := by decide +kernel
theorem dX3_digest_172 : decode cX3_digest 172 = .ok (.iload_n 1, 1) := by decide +kernel
theorem dX3_digest_173 : decode cX3_digest 173 = .ok (.iadd, 1) := by decide +kernel
theorem dX3_digest_174 : decode cX3_digest 174 = .ok (.iaload, 1) := by decide +kernel
theorem dX3_digest_175 : decode cX3_digest 175 = .ok (.i2l, 1) := by decide +kernel
theorem dX3_digest_176 : decode cX3_digest 176 = .ok (.invokevirtual 159, 3) := by decide +kernel
theorem dX3_digest_179 : decode cX3_digest 179 = .ok (.iconst 0, 1) := by decide +kernel
theorem dX3_digest_180 : decode cX3_digest 180 = .ok (.istore_n 3, 1) := by decide +kernel
theorem dX3_digest_181 : decode cX3_digest 181 = .ok (.iload_n 3, 1) := by decide +kernel
theorem dX3_digest_182 : decode cX3_digest 182 = .ok (.iload_n 2, 1) := by decide +kernel
theorem dX3_digest_183 : decode cX3_digest 183 = .ok (.if_icmp .ge 54, 3) := by decide +kernel
theorem dX3_digest_186 : decode cX3_digest 186 = .ok (.aload_n 0, 1) := by decide +kernel
theorem dX3_digest_187 : decode cX3_digest 187 = .ok (.iload_n 1, 1) := by decide +kernel
theorem dX3_digest_188 : decode cX3_digest 188 = .ok (.iload_n 3, 1) := by decide +kernel
theorem dX3_digest_189 : decode cX3_digest 189 = .ok (.invokevirtual 49, 3) := by decide +kernel
theorem dX3_digest_192 : decode cX3_digest 192 = .ok (.istore 4, 2) := by decide +kernel
theorem dX3_digest_194 : decode cX3_digest 194 = .ok (.aload_n 0, 1) := by decide +kernel
theorem dX3_digest_195 : decode cX3_digest 195 = .ok (.iload 4, 2) := by decide +kernel
theorem dX3_digest_197 : decode cX3_digest 197 = .ok (.i2l, 1) := by decide +kernel
theorem dX3_digest_198 : decode cX3_digest 198 = .ok (.invokevirtual 159, 3) := by decide +kernel
theorem dX3_digest_201 : decode cX3_digest 201 = .ok (.aload_n 0, 1) := by decide +kernel
theorem dX3_digest_202 : decode cX3_digest 202 = .ok (.aload_n 0, 1) := by decide +kernel
theorem dX3_digest_203 : decode cX3_digest 203 = .ok (.getfield 7, 3) := by decide +kernel
theorem dX3_digest_206 : decode cX3_digest 206 = .ok (.bipush 59, 2) := by decide +kernel
theorem dX3_digest_208 : decode cX3_digest 208 = .ok (.iload 4, 2) := by decide +kernel
theorem dX3_digest_210 : decode cX3_digest 210 = .ok (.iadd, 1) := by decide +kernel
theorem dX3_digest_211 : decode cX3_digest 211 = .ok (.iaload, 1) := by decide +kernel
theorem dX3_digest_212 : decode cX3_digest 212 = .ok (.i2l, 1) := by decide +kernel
theorem dX3_digest_213 : decode cX3_digest 213 = .ok (.invokevirtual 159, 3) := by decide +kernel
theorem dX3_digest_216 : decode cX3_digest 216 = .ok (.aload_n 0, 1) := by decide +kernel
theorem dX3_digest_217 : decode cX3_digest 217 = .ok (.aload_n 0, 1) := by decide +kernel
theorem dX3_digest_218 : decode cX3_digest 218 = .ok (.getfield 7, 3) := by decide +kernel
theorem dX3_digest_221 : decode cX3_digest 221 = .ok (.bipush 91, 2) := by decide +kernel
theorem dX3_digest_223 : decode cX3_digest 223 = .ok (.iload 4, 2) := by decide +kernel
theorem dX3_digest_225 : decode cX3_digest 225 = .ok (.iadd, 1) := by decide +kernel
theorem dX3_digest_226 : decode cX3_digest 226 = .ok (.iaload, 1) := by decide +kernel
theorem dX3_digest_227 : decode cX3_digest 227 = .ok (.i2l, 1) := by decide +kernel
theorem dX3_digest_228 : decode cX3_digest 228 = .ok (.invokevirtual 159, 3) := by decide +kernel
theorem dX3_digest_231 : decode cX3_digest 231 = .ok (.iinc 3 1, 3) := by decide +kernel
theorem dX3_digest_234 : decode cX3_digest 234 = .ok (.goto (-53), 3) := by decide +kernel
theorem dX3_digest_237 : decode cX3_digest 237 = .ok (.iinc 1 1, 3) := by decide +kernel
theorem dX3_digest_240 : decode cX3_digest 240 = .ok (.goto (-111), 3) := by decide +kernel
theorem dX3_digest_243 : decode cX3_digest 243 = .ok (.iconst 0, 1) := by decide +kernel
theorem dX3_digest_244 : decode cX3_digest 244 = .ok (.istore_n 1, 1) := by decide +kernel
theorem dX3_digest_245 : decode cX3_digest 245 = .ok (.iload_n 1, 1) := by decide +kernel
theorem dX3_digest_246 : decode cX3_digest 246 = .ok (.bipush 32, 2) := by decide +kernel
theorem dX3_digest_248 : decode cX3_digest 248 = .ok (.if_icmp .ge 23, 3) := by decide +kernel
theorem dX3_digest_251 : decode cX3_digest 251 = .ok (.aload_n 0, 1) := by decide +kernel
theorem dX3_digest_252 : decode cX3_digest 252 = .ok (.aload_n 0, 1) := by decide +kernel
theorem dX3_digest_253 : decode cX3_digest 253 = .ok (.getfield 7, 3) := by decide +kernel
theorem dX3_digest_256 : decode cX3_digest 256 = .ok (.bipush 27, 2) := by decide +kernel
theorem dX3_digest_258 : decode cX3_digest 258 = .ok (.iload_n 1, 1) := by decide +kernel
theorem dX3_digest_259 : decode cX3_digest 259 = .ok (.iadd, 1) := by decide +kernel
theorem dX3_digest_260 : decode cX3_digest 260 = .ok (.iaload, 1) := by decide +kernel
theorem dX3_digest_261 : decode cX3_digest 261 = .ok (.i2l, 1) := by decide +kernel
theorem dX3_digest_262 : decode cX3_digest 262 = .ok (.invokevirtual 159, 3) := by decide +kernel
theorem dX3_digest_265 : decode cX3_digest 265 = .ok (.iinc 1 1, 3) := by decide +kernel
theorem dX3_digest_268 : decode cX3_digest 268 = .ok (.goto (-23), 3) := by decide +kernel
theorem dX3_digest_271 : decode cX3_digest 271 = .ok (.aload_n 0, 1) := by decide +kernel
theorem dX3_digest_272 : decode cX3_digest 272 = .ok (.getfield 153, 3) := by decide +kernel
theorem dX3_digest_275 : decode cX3_digest 275 = .ok (.lreturn, 1) := by decide +kernel
