theorem dL_at_0 : decode cL_at 0 = .ok (.iload_n 1, 1) := by decide +kernel
theorem dL_at_1 : decode cL_at 1 = .ok (.aload_n 0, 1) := by decide +kernel
theorem dL_at_2 : decode cL_at 2 = .ok (.arraylength, 1) := by decide +kernel
theorem dL_at_3 : decode cL_at 3 = .ok (.if_icmp .ge 9, 3) := by decide +kernel
theorem dL_at_6 : decode cL_at 6 = .ok (.aload_n 0, 1) := by decide +kernel
theorem dL_at_7 : decode cL_at 7 = .ok (.iload_n 1, 1) := by decide +kernel
theorem dL_at_8 : decode cL_at 8 = .ok (.iaload, 1) := by decide +kernel
theorem dL_at_9 : decode cL_at 9 = .ok (.goto 4, 3) := by decide +kernel
theorem dL_at_12 : decode cL_at 12 = .ok (.iconst 0, 1) := by decide +kernel
theorem dL_at_13 : decode cL_at 13 = .ok (.ireturn, 1) := by decide +kernel
theorem dL_some_0 : decode cL_some 0 = .ok (.iload_n 0, 1) := by decide +kernel
theorem dL_some_1 : decode cL_some 1 = .ok (.iload_n 1, 1) := by decide +kernel
theorem dL_some_2 : decode cL_some 2 = .ok (.irem, 1) := by decide +kernel
theorem dL_some_3 : decode cL_some 3 = .ok (.istore_n 2, 1) := by decide +kernel
theorem dL_some_4 : decode cL_some 4 = .ok (.iload_n 2, 1) := by decide +kernel
theorem dL_some_5 : decode cL_some 5 = .ok (.ifCond .ge 9, 3) := by decide +kernel
theorem dL_some_8 : decode cL_some 8 = .ok (.iload_n 2, 1) := by decide +kernel
theorem dL_some_9 : decode cL_some 9 = .ok (.iload_n 1, 1) := by decide +kernel
theorem dL_some_10 : decode cL_some 10 = .ok (.iadd, 1) := by decide +kernel
theorem dL_some_11 : decode cL_some 11 = .ok (.goto 4, 3) := by decide +kernel
theorem dL_some_14 : decode cL_some 14 = .ok (.iload_n 2, 1) := by decide +kernel
theorem dL_some_15 : decode cL_some 15 = .ok (.ireturn, 1) := by decide +kernel
theorem dL_dig_0 : decode cL_dig 0 = .ok (.aload_n 0, 1) := by decide +kernel
theorem dL_dig_1 : decode cL_dig 1 = .ok (.invokevirtual 7, 3) := by decide +kernel
theorem dL_dig_4 : decode cL_dig 4 = .ok (.ireturn, 1) := by decide +kernel
theorem dL_dig_5 : decode cL_dig 5 = .ok (.astore_n 1, 1) := by decide +kernel
theorem dL_dig_6 : decode cL_dig 6 = .ok (.sipush (-1001), 3) := by decide +kernel
theorem dL_dig_9 : decode cL_dig 9 = .ok (.ireturn, 1) := by decide +kernel
theorem dL_tread_0 : decode cL_tread 0 = .ok (.aload_n 0, 1) := by decide +kernel
theorem dL_tread_1 : decode cL_tread 1 = .ok (.iload_n 1, 1) := by decide +kernel
theorem dL_tread_2 : decode cL_tread 2 = .ok (.iload_n 2, 1) := by decide +kernel
theorem dL_tread_3 : decode cL_tread 3 = .ok (.invokevirtual 15, 3) := by decide +kernel
theorem dL_tread_6 : decode cL_tread 6 = .ok (.ireturn, 1) := by decide +kernel
theorem dL_tread_7 : decode cL_tread 7 = .ok (.astore_n 3, 1) := by decide +kernel
theorem dL_tread_8 : decode cL_tread 8 = .ok (.sipush (-1001), 3) := by decide +kernel
theorem dL_tread_11 : decode cL_tread 11 = .ok (.ireturn, 1) := by decide +kernel
theorem dL_grow_0 : decode cL_grow 0 = .ok (.aload_n 0, 1) := by decide +kernel
theorem dL_grow_1 : decode cL_grow 1 = .ok (.iload_n 1, 1) := by decide +kernel
theorem dL_grow_2 : decode cL_grow 2 = .ok (.iload_n 2, 1) := by decide +kernel
theorem dL_grow_3 : decode cL_grow 3 = .ok (.invokevirtual 19, 3) := by decide +kernel
theorem dL_grow_6 : decode cL_grow 6 = .ok (.ireturn, 1) := by decide +kernel
theorem dL_grow_7 : decode cL_grow 7 = .ok (.astore_n 3, 1) := by decide +kernel
theorem dL_grow_8 : decode cL_grow 8 = .ok (.sipush (-1001), 3) := by decide +kernel
theorem dL_grow_11 : decode cL_grow 11 = .ok (.ireturn, 1) := by decide +kernel
theorem dL_trap_0 : decode cL_trap 0 = .ok (.aload_n 0, 1) := by decide +kernel
theorem dL_trap_1 : decode cL_trap 1 = .ok (.iload_n 1, 1) := by decide +kernel
theorem dL_trap_2 : decode cL_trap 2 = .ok (.iload_n 2, 1) := by decide +kernel
theorem dL_trap_3 : decode cL_trap 3 = .ok (.invokevirtual 22, 3) := by decide +kernel
theorem dL_trap_6 : decode cL_trap 6 = .ok (.ireturn, 1) := by decide +kernel
theorem dL_trap_7 : decode cL_trap 7 = .ok (.astore_n 3, 1) := by decide +kernel
theorem dL_trap_8 : decode cL_trap 8 = .ok (.sipush (-1001), 3) := by decide +kernel
theorem dL_trap_11 : decode cL_trap 11 = .ok (.ireturn, 1) := by decide +kernel
theorem dL_flock_0 : decode cL_flock 0 = .ok (.aload_n 0, 1) := by decide +kernel
theorem dL_flock_1 : decode cL_flock 1 = .ok (.iload_n 1, 1) := by decide +kernel
theorem dL_flock_2 : decode cL_flock 2 = .ok (.invokevirtual 26, 3) := by decide +kernel
theorem dL_flock_5 : decode cL_flock 5 = .ok (.ireturn, 1) := by decide +kernel
theorem dL_flock_6 : decode cL_flock 6 = .ok (.astore_n 2, 1) := by decide +kernel
theorem dL_flock_7 : decode cL_flock 7 = .ok (.sipush (-1001), 3) := by decide +kernel
theorem dL_flock_10 : decode cL_flock 10 = .ok (.ireturn, 1) := by decide +kernel
theorem dL_begin_0 : decode cL_begin 0 = .ok (.aload_n 0, 1) := by decide +kernel
theorem dL_begin_1 : decode cL_begin 1 = .ok (.iload_n 1, 1) := by decide +kernel
theorem dL_begin_2 : decode cL_begin 2 = .ok (.invokevirtual 30, 3) := by decide +kernel
theorem dL_begin_5 : decode cL_begin 5 = .ok (.ireturn, 1) := by decide +kernel
theorem dL_begin_6 : decode cL_begin 6 = .ok (.astore_n 2, 1) := by decide +kernel
theorem dL_begin_7 : decode cL_begin 7 = .ok (.sipush (-1001), 3) := by decide +kernel
theorem dL_begin_10 : decode cL_begin 10 = .ok (.ireturn, 1) := by decide +kernel
theorem dL_move_0 : decode cL_move 0 = .ok (.aload_n 0, 1) := by decide +kernel
theorem dL_move_1 : decode cL_move 1 = .ok (.iload_n 1, 1) := by decide +kernel
theorem dL_move_2 : decode cL_move 2 = .ok (.iload_n 2, 1) := by decide +kernel
theorem dL_move_3 : decode cL_move 3 = .ok (.invokevirtual 33, 3) := by decide +kernel
theorem dL_move_6 : decode cL_move 6 = .ok (.ireturn, 1) := by decide +kernel
theorem dL_move_7 : decode cL_move 7 = .ok (.astore_n 3, 1) := by decide +kernel
theorem dL_move_8 : decode cL_move 8 = .ok (.sipush (-1001), 3) := by decide +kernel
theorem dL_move_11 : decode cL_move 11 = .ok (.ireturn, 1) := by decide +kernel
theorem dL_play_0 : decode cL_play 0 = .ok (.aload_n 0, 1) := by decide +kernel
theorem dL_play_1 : decode cL_play 1 = .ok (.iload_n 1, 1) := by decide +kernel
theorem dL_play_2 : decode cL_play 2 = .ok (.invokevirtual 36, 3) := by decide +kernel
theorem dL_play_5 : decode cL_play 5 = .ok (.ireturn, 1) := by decide +kernel
theorem dL_play_6 : decode cL_play 6 = .ok (.astore_n 2, 1) := by decide +kernel
theorem dL_play_7 : decode cL_play 7 = .ok (.sipush (-1001), 3) := by decide +kernel
theorem dL_play_10 : decode cL_play 10 = .ok (.ireturn, 1) := by decide +kernel
theorem dL_back_0 : decode cL_back 0 = .ok (.aload_n 0, 1) := by decide +kernel
theorem dL_back_1 : decode cL_back 1 = .ok (.invokevirtual 39, 3) := by decide +kernel
theorem dL_back_4 : decode cL_back 4 = .ok (.ireturn, 1) := by decide +kernel
theorem dL_back_5 : decode cL_back 5 = .ok (.astore_n 1, 1) := by decide +kernel
theorem dL_back_6 : decode cL_back 6 = .ok (.sipush (-1001), 3) := by decide +kernel
theorem dL_back_9 : decode cL_back 9 = .ok (.ireturn, 1) := by decide +kernel
theorem dL_position_0 : decode cL_position 0 = .ok (.aload_n 0, 1) := by decide +kernel
theorem dL_position_1 : decode cL_position 1 = .ok (.iload_n 1, 1) := by decide +kernel
theorem dL_position_2 : decode cL_position 2 = .ok (.iload_n 2, 1) := by decide +kernel
theorem dL_position_3 : decode cL_position 3 = .ok (.iload_n 3, 1) := by decide +kernel
theorem dL_position_4 : decode cL_position 4 = .ok (.iload 4, 2) := by decide +kernel
theorem dL_position_6 : decode cL_position 6 = .ok (.invokevirtual 42, 3) := by decide +kernel
theorem dL_position_9 : decode cL_position 9 = .ok (.ireturn, 1) := by decide +kernel
theorem dL_position_10 : decode cL_position 10 = .ok (.astore 5, 2) := by decide +kernel
theorem dL_position_12 : decode cL_position 12 = .ok (.sipush (-1001), 3) := by decide +kernel
theorem dL_position_15 : decode cL_position 15 = .ok (.ireturn, 1) := by decide +kernel
theorem dL_positionOf_0 : decode cL_positionOf 0 = .ok (.aload_n 0, 1) := by decide +kernel
theorem dL_positionOf_1 : decode cL_positionOf 1 = .ok (.iload_n 1, 1) := by decide +kernel
theorem dL_positionOf_2 : decode cL_positionOf 2 = .ok (.iload_n 2, 1) := by decide +kernel
theorem dL_positionOf_3 : decode cL_positionOf 3 = .ok (.invokevirtual 48, 3) := by decide +kernel
theorem dL_positionOf_6 : decode cL_positionOf 6 = .ok (.ireturn, 1) := by decide +kernel
theorem dL_positionOf_7 : decode cL_positionOf 7 = .ok (.astore_n 3, 1) := by decide +kernel
theorem dL_positionOf_8 : decode cL_positionOf 8 = .ok (.sipush (-1001), 3) := by decide +kernel
theorem dL_positionOf_11 : decode cL_positionOf 11 = .ok (.ireturn, 1) := by decide +kernel
theorem dL_positionOf_12 : decode cL_positionOf 12 = .ok (.astore_n 3, 1) := by decide +kernel
theorem dL_positionOf_13 : decode cL_positionOf 13 = .ok (.sipush (-1002), 3) := by decide +kernel
theorem dL_positionOf_16 : decode cL_positionOf 16 = .ok (.ireturn, 1) := by decide +kernel
theorem dL_outcomeAgain_0 : decode cL_outcomeAgain 0 = .ok (.aload_n 0, 1) := by decide +kernel
theorem dL_outcomeAgain_1 : decode cL_outcomeAgain 1 = .ok (.iload_n 1, 1) := by decide +kernel
theorem dL_outcomeAgain_2 : decode cL_outcomeAgain 2 = .ok (.invokevirtual 53, 3) := by decide +kernel
theorem dL_outcomeAgain_5 : decode cL_outcomeAgain 5 = .ok (.ireturn, 1) := by decide +kernel
theorem dL_outcomeAgain_6 : decode cL_outcomeAgain 6 = .ok (.astore_n 2, 1) := by decide +kernel
theorem dL_outcomeAgain_7 : decode cL_outcomeAgain 7 = .ok (.sipush (-1001), 3) := by decide +kernel
theorem dL_outcomeAgain_10 : decode cL_outcomeAgain 10 = .ok (.ireturn, 1) := by decide +kernel
theorem dL_moveOf_0 : decode cL_moveOf 0 = .ok (.aload_n 0, 1) := by decide +kernel
theorem dL_moveOf_1 : decode cL_moveOf 1 = .ok (.iload_n 1, 1) := by decide +kernel
theorem dL_moveOf_2 : decode cL_moveOf 2 = .ok (.iload_n 2, 1) := by decide +kernel
theorem dL_moveOf_3 : decode cL_moveOf 3 = .ok (.iload_n 3, 1) := by decide +kernel
theorem dL_moveOf_4 : decode cL_moveOf 4 = .ok (.invokevirtual 56, 3) := by decide +kernel
theorem dL_moveOf_7 : decode cL_moveOf 7 = .ok (.ireturn, 1) := by decide +kernel
theorem dL_moveOf_8 : decode cL_moveOf 8 = .ok (.astore 4, 2) := by decide +kernel
theorem dL_moveOf_10 : decode cL_moveOf 10 = .ok (.sipush (-1001), 3) := by decide +kernel
theorem dL_moveOf_13 : decode cL_moveOf 13 = .ok (.ireturn, 1) := by decide +kernel
theorem dL_best_0 : decode cL_best 0 = .ok (.aload_n 0, 1) := by decide +kernel
theorem dL_best_1 : decode cL_best 1 = .ok (.iload_n 1, 1) := by decide +kernel
theorem dL_best_2 : decode cL_best 2 = .ok (.invokevirtual 60, 3) := by decide +kernel
theorem dL_best_5 : decode cL_best 5 = .ok (.ireturn, 1) := by decide +kernel
theorem dL_best_6 : decode cL_best 6 = .ok (.astore_n 2, 1) := by decide +kernel
theorem dL_best_7 : decode cL_best 7 = .ok (.sipush (-1001), 3) := by decide +kernel
theorem dL_best_10 : decode cL_best 10 = .ok (.ireturn, 1) := by decide +kernel
theorem dL_after_0 : decode cL_after 0 = .ok (.aload_n 0, 1) := by decide +kernel
theorem dL_after_1 : decode cL_after 1 = .ok (.iload_n 1, 1) := by decide +kernel
theorem dL_after_2 : decode cL_after 2 = .ok (.iload_n 2, 1) := by decide +kernel
theorem dL_after_3 : decode cL_after 3 = .ok (.iload_n 3, 1) := by decide +kernel
theorem dL_after_4 : decode cL_after 4 = .ok (.invokevirtual 63, 3) := by decide +kernel
theorem dL_after_7 : decode cL_after 7 = .ok (.ireturn, 1) := by decide +kernel
theorem dL_after_8 : decode cL_after 8 = .ok (.astore 4, 2) := by decide +kernel
theorem dL_after_10 : decode cL_after 10 = .ok (.sipush (-1001), 3) := by decide +kernel
theorem dL_after_13 : decode cL_after 13 = .ok (.ireturn, 1) := by decide +kernel
theorem dL_ending_0 : decode cL_ending 0 = .ok (.aload_n 0, 1) := by decide +kernel
theorem dL_ending_1 : decode cL_ending 1 = .ok (.iload_n 1, 1) := by decide +kernel
theorem dL_ending_2 : decode cL_ending 2 = .ok (.invokevirtual 67, 3) := by decide +kernel
theorem dL_ending_5 : decode cL_ending 5 = .ok (.ireturn, 1) := by decide +kernel
theorem dL_ending_6 : decode cL_ending 6 = .ok (.astore_n 2, 1) := by decide +kernel
theorem dL_ending_7 : decode cL_ending 7 = .ok (.sipush (-1001), 3) := by decide +kernel
theorem dL_ending_10 : decode cL_ending 10 = .ok (.ireturn, 1) := by decide +kernel
theorem dL_count_0 : decode cL_count 0 = .ok (.aload_n 0, 1) := by decide +kernel
theorem dL_count_1 : decode cL_count 1 = .ok (.iload_n 1, 1) := by decide +kernel
theorem dL_count_2 : decode cL_count 2 = .ok (.iload_n 2, 1) := by decide +kernel
theorem dL_count_3 : decode cL_count 3 = .ok (.invokevirtual 70, 3) := by decide +kernel
theorem dL_count_6 : decode cL_count 6 = .ok (.ireturn, 1) := by decide +kernel
theorem dL_count_7 : decode cL_count 7 = .ok (.astore_n 3, 1) := by decide +kernel
theorem dL_count_8 : decode cL_count 8 = .ok (.sipush (-1001), 3) := by decide +kernel
theorem dL_count_11 : decode cL_count 11 = .ok (.ireturn, 1) := by decide +kernel
theorem dL_longest_0 : decode cL_longest 0 = .ok (.aload_n 0, 1) := by decide +kernel
theorem dL_longest_1 : decode cL_longest 1 = .ok (.iload_n 1, 1) := by decide +kernel
theorem dL_longest_2 : decode cL_longest 2 = .ok (.invokevirtual 73, 3) := by decide +kernel
theorem dL_longest_5 : decode cL_longest 5 = .ok (.ireturn, 1) := by decide +kernel
theorem dL_longest_6 : decode cL_longest 6 = .ok (.astore_n 2, 1) := by decide +kernel
theorem dL_longest_7 : decode cL_longest 7 = .ok (.sipush (-1001), 3) := by decide +kernel
theorem dL_longest_10 : decode cL_longest 10 = .ok (.ireturn, 1) := by decide +kernel
theorem dL_wonIn_0 : decode cL_wonIn 0 = .ok (.aload_n 0, 1) := by decide +kernel
theorem dL_wonIn_1 : decode cL_wonIn 1 = .ok (.iload_n 1, 1) := by decide +kernel
theorem dL_wonIn_2 : decode cL_wonIn 2 = .ok (.invokevirtual 77, 3) := by decide +kernel
theorem dL_wonIn_5 : decode cL_wonIn 5 = .ok (.ireturn, 1) := by decide +kernel
theorem dL_wonIn_6 : decode cL_wonIn 6 = .ok (.astore_n 2, 1) := by decide +kernel
theorem dL_wonIn_7 : decode cL_wonIn 7 = .ok (.sipush (-1001), 3) := by decide +kernel
theorem dL_wonIn_10 : decode cL_wonIn 10 = .ok (.ireturn, 1) := by decide +kernel
theorem dL_wouldChange_0 : decode cL_wouldChange 0 = .ok (.aload_n 0, 1) := by decide +kernel
theorem dL_wouldChange_1 : decode cL_wouldChange 1 = .ok (.iload_n 1, 1) := by decide +kernel
theorem dL_wouldChange_2 : decode cL_wouldChange 2 = .ok (.iload_n 2, 1) := by decide +kernel
theorem dL_wouldChange_3 : decode cL_wouldChange 3 = .ok (.invokevirtual 80, 3) := by decide +kernel
theorem dL_wouldChange_6 : decode cL_wouldChange 6 = .ok (.ireturn, 1) := by decide +kernel
theorem dL_wouldChange_7 : decode cL_wouldChange 7 = .ok (.astore_n 3, 1) := by decide +kernel
theorem dL_wouldChange_8 : decode cL_wouldChange 8 = .ok (.sipush (-1001), 3) := by decide +kernel
theorem dL_wouldChange_11 : decode cL_wouldChange 11 = .ok (.ireturn, 1) := by decide +kernel
theorem dL_wouldChange_12 : decode cL_wouldChange 12 = .ok (.astore_n 3, 1) := by decide +kernel
theorem dL_wouldChange_13 : decode cL_wouldChange 13 = .ok (.sipush (-1002), 3) := by decide +kernel
theorem dL_wouldChange_16 : decode cL_wouldChange 16 = .ok (.ireturn, 1) := by decide +kernel
theorem dL_bestBurrow_0 : decode cL_bestBurrow 0 = .ok (.aload_n 0, 1) := by decide +kernel
theorem dL_bestBurrow_1 : decode cL_bestBurrow 1 = .ok (.iload_n 1, 1) := by decide +kernel
theorem dL_bestBurrow_2 : decode cL_bestBurrow 2 = .ok (.invokevirtual 85, 3) := by decide +kernel
theorem dL_bestBurrow_5 : decode cL_bestBurrow 5 = .ok (.ireturn, 1) := by decide +kernel
theorem dL_bestBurrow_6 : decode cL_bestBurrow 6 = .ok (.astore_n 2, 1) := by decide +kernel
theorem dL_bestBurrow_7 : decode cL_bestBurrow 7 = .ok (.sipush (-1001), 3) := by decide +kernel
theorem dL_bestBurrow_10 : decode cL_bestBurrow 10 = .ok (.ireturn, 1) := by decide +kernel
theorem dL_burrowOf_0 : decode cL_burrowOf 0 = .ok (.aload_n 0, 1) := by decide +kernel
theorem dL_burrowOf_1 : decode cL_burrowOf 1 = .ok (.iload_n 1, 1) := by decide +kernel
theorem dL_burrowOf_2 : decode cL_burrowOf 2 = .ok (.iload_n 2, 1) := by decide +kernel
theorem dL_burrowOf_3 : decode cL_burrowOf 3 = .ok (.invokevirtual 88, 3) := by decide +kernel
theorem dL_burrowOf_6 : decode cL_burrowOf 6 = .ok (.ireturn, 1) := by decide +kernel
theorem dL_burrowOf_7 : decode cL_burrowOf 7 = .ok (.astore_n 3, 1) := by decide +kernel
theorem dL_burrowOf_8 : decode cL_burrowOf 8 = .ok (.sipush (-1001), 3) := by decide +kernel
theorem dL_burrowOf_11 : decode cL_burrowOf 11 = .ok (.ireturn, 1) := by decide +kernel
theorem dL_burrowOf_12 : decode cL_burrowOf 12 = .ok (.astore_n 3, 1) := by decide +kernel
theorem dL_burrowOf_13 : decode cL_burrowOf 13 = .ok (.sipush (-1002), 3) := by decide +kernel
theorem dL_burrowOf_16 : decode cL_burrowOf 16 = .ok (.ireturn, 1) := by decide +kernel
theorem dL_pathOf_0 : decode cL_pathOf 0 = .ok (.aload_n 0, 1) := by decide +kernel
theorem dL_pathOf_1 : decode cL_pathOf 1 = .ok (.iload_n 1, 1) := by decide +kernel
theorem dL_pathOf_2 : decode cL_pathOf 2 = .ok (.iload_n 2, 1) := by decide +kernel
theorem dL_pathOf_3 : decode cL_pathOf 3 = .ok (.invokevirtual 91, 3) := by decide +kernel
theorem dL_pathOf_6 : decode cL_pathOf 6 = .ok (.ireturn, 1) := by decide +kernel
theorem dL_pathOf_7 : decode cL_pathOf 7 = .ok (.astore_n 3, 1) := by decide +kernel
theorem dL_pathOf_8 : decode cL_pathOf 8 = .ok (.sipush (-1001), 3) := by decide +kernel
theorem dL_pathOf_11 : decode cL_pathOf 11 = .ok (.ireturn, 1) := by decide +kernel
theorem dL_now_0 : decode cL_now 0 = .ok (.aload_n 0, 1) := by decide +kernel
theorem dL_now_1 : decode cL_now 1 = .ok (.invokevirtual 94, 3) := by decide +kernel
theorem dL_now_4 : decode cL_now 4 = .ok (.ireturn, 1) := by decide +kernel
theorem dL_now_5 : decode cL_now 5 = .ok (.astore_n 1, 1) := by decide +kernel
theorem dL_now_6 : decode cL_now 6 = .ok (.sipush (-1001), 3) := by decide +kernel
theorem dL_now_9 : decode cL_now 9 = .ok (.ireturn, 1) := by decide +kernel
theorem dL_append_0 : decode cL_append 0 = .ok (.aload_n 0, 1) := by decide +kernel
theorem dL_append_1 : decode cL_append 1 = .ok (.iload_n 1, 1) := by decide +kernel
theorem dL_append_2 : decode cL_append 2 = .ok (.invokevirtual 97, 3) := by decide +kernel
theorem dL_append_5 : decode cL_append 5 = .ok (.ireturn, 1) := by decide +kernel
theorem dL_append_6 : decode cL_append 6 = .ok (.astore_n 2, 1) := by decide +kernel
theorem dL_append_7 : decode cL_append 7 = .ok (.sipush (-1001), 3) := by decide +kernel
theorem dL_append_10 : decode cL_append 10 = .ok (.ireturn, 1) := by decide +kernel
theorem dL_commands_0 : decode cL_commands 0 = .ok (.aload_n 0, 1) := by decide +kernel
theorem dL_commands_1 : decode cL_commands 1 = .ok (.invokevirtual 103, 3) := by decide +kernel
theorem dL_commands_4 : decode cL_commands 4 = .ok (.ireturn, 1) := by decide +kernel
theorem dL_commands_5 : decode cL_commands 5 = .ok (.astore_n 1, 1) := by decide +kernel
theorem dL_commands_6 : decode cL_commands 6 = .ok (.sipush (-1001), 3) := by decide +kernel
theorem dL_commands_9 : decode cL_commands 9 = .ok (.ireturn, 1) := by decide +kernel
theorem dL_commands_10 : decode cL_commands 10 = .ok (.astore_n 1, 1) := by decide +kernel
theorem dL_commands_11 : decode cL_commands 11 = .ok (.sipush (-1002), 3) := by decide +kernel
theorem dL_commands_14 : decode cL_commands 14 = .ok (.ireturn, 1) := by decide +kernel
theorem dL_reason_0 : decode cL_reason 0 = .ok (.aload_n 0, 1) := by decide +kernel
theorem dL_reason_1 : decode cL_reason 1 = .ok (.iload_n 1, 1) := by decide +kernel
theorem dL_reason_2 : decode cL_reason 2 = .ok (.invokevirtual 106, 3) := by decide +kernel
theorem dL_reason_5 : decode cL_reason 5 = .ok (.ireturn, 1) := by decide +kernel
theorem dL_reason_6 : decode cL_reason 6 = .ok (.astore_n 2, 1) := by decide +kernel
theorem dL_reason_7 : decode cL_reason 7 = .ok (.sipush (-1001), 3) := by decide +kernel
theorem dL_reason_10 : decode cL_reason 10 = .ok (.ireturn, 1) := by decide +kernel
theorem dL_reason_11 : decode cL_reason 11 = .ok (.astore_n 2, 1) := by decide +kernel
theorem dL_reason_12 : decode cL_reason 12 = .ok (.sipush (-1002), 3) := by decide +kernel
theorem dL_reason_15 : decode cL_reason 15 = .ok (.ireturn, 1) := by decide +kernel
theorem dL_character_0 : decode cL_character 0 = .ok (.aload_n 0, 1) := by decide +kernel
theorem dL_character_1 : decode cL_character 1 = .ok (.iload_n 1, 1) := by decide +kernel
theorem dL_character_2 : decode cL_character 2 = .ok (.invokevirtual 109, 3) := by decide +kernel
theorem dL_character_5 : decode cL_character 5 = .ok (.ireturn, 1) := by decide +kernel
theorem dL_character_6 : decode cL_character 6 = .ok (.astore_n 2, 1) := by decide +kernel
theorem dL_character_7 : decode cL_character 7 = .ok (.sipush (-1001), 3) := by decide +kernel
theorem dL_character_10 : decode cL_character 10 = .ok (.ireturn, 1) := by decide +kernel
theorem dL_meanMoves_0 : decode cL_meanMoves 0 = .ok (.aload_n 0, 1) := by decide +kernel
theorem dL_meanMoves_1 : decode cL_meanMoves 1 = .ok (.invokevirtual 113, 3) := by decide +kernel
theorem dL_meanMoves_4 : decode cL_meanMoves 4 = .ok (.dreturn, 1) := by decide +kernel
theorem dL_meanMoves_5 : decode cL_meanMoves 5 = .ok (.astore_n 1, 1) := by decide +kernel
theorem dL_meanMoves_6 : decode cL_meanMoves 6 = .ok (.ldc2_w 119, 3) := by decide +kernel
theorem dL_meanMoves_9 : decode cL_meanMoves 9 = .ok (.dreturn, 1) := by decide +kernel
theorem dL_drawn_0 : decode cL_drawn 0 = .ok (.aload_n 0, 1) := by decide +kernel
theorem dL_drawn_1 : decode cL_drawn 1 = .ok (.invokevirtual 121, 3) := by decide +kernel
theorem dL_drawn_4 : decode cL_drawn 4 = .ok (.freturn, 1) := by decide +kernel
theorem dL_drawn_5 : decode cL_drawn 5 = .ok (.astore_n 1, 1) := by decide +kernel
theorem dL_drawn_6 : decode cL_drawn 6 = .ok (.ldc 125, 2) := by decide +kernel
theorem dL_drawn_8 : decode cL_drawn 8 = .ok (.freturn, 1) := by decide +kernel
theorem dL_account_0 : decode cL_account 0 = .ok (.aload_n 0, 1) := by decide +kernel
theorem dL_account_1 : decode cL_account 1 = .ok (.iload_n 1, 1) := by decide +kernel
theorem dL_account_2 : decode cL_account 2 = .ok (.invokevirtual 126, 3) := by decide +kernel
theorem dL_account_5 : decode cL_account 5 = .ok (.ireturn, 1) := by decide +kernel
theorem dL_account_6 : decode cL_account 6 = .ok (.astore_n 2, 1) := by decide +kernel
theorem dL_account_7 : decode cL_account 7 = .ok (.sipush (-1001), 3) := by decide +kernel
theorem dL_account_10 : decode cL_account 10 = .ok (.ireturn, 1) := by decide +kernel
theorem dL_undo_0 : decode cL_undo 0 = .ok (.aload_n 0, 1) := by decide +kernel
theorem dL_undo_1 : decode cL_undo 1 = .ok (.invokevirtual 129, 3) := by decide +kernel
theorem dL_undo_4 : decode cL_undo 4 = .ok (.ireturn, 1) := by decide +kernel
theorem dL_undo_5 : decode cL_undo 5 = .ok (.astore_n 1, 1) := by decide +kernel
theorem dL_undo_6 : decode cL_undo 6 = .ok (.sipush (-1001), 3) := by decide +kernel
theorem dL_undo_9 : decode cL_undo 9 = .ok (.ireturn, 1) := by decide +kernel
theorem dL_restore_0 : decode cL_restore 0 = .ok (.aload_n 0, 1) := by decide +kernel
theorem dL_restore_1 : decode cL_restore 1 = .ok (.invokevirtual 132, 3) := by decide +kernel
theorem dL_restore_4 : decode cL_restore 4 = .ok (.ireturn, 1) := by decide +kernel
theorem dL_restore_5 : decode cL_restore 5 = .ok (.astore_n 1, 1) := by decide +kernel
theorem dL_restore_6 : decode cL_restore 6 = .ok (.sipush (-1001), 3) := by decide +kernel
theorem dL_restore_9 : decode cL_restore 9 = .ok (.ireturn, 1) := by decide +kernel
theorem dL_does_0 : decode cL_does 0 = .ok (.iconst 0, 1) := by decide +kernel
theorem dL_does_1 : decode cL_does 1 = .ok (.istore_n 2, 1) := by decide +kernel
theorem dL_does_2 : decode cL_does 2 = .ok (.iload_n 2, 1) := by decide +kernel
theorem dL_does_3 : decode cL_does 3 = .ok (.aload_n 1, 1) := by decide +kernel
theorem dL_does_4 : decode cL_does 4 = .ok (.invokevirtual 135, 3) := by decide +kernel
theorem dL_does_7 : decode cL_does 7 = .ok (.if_icmp .ge 28, 3) := by decide +kernel
theorem dL_does_10 : decode cL_does 10 = .ok (.aload_n 0, 1) := by decide +kernel
theorem dL_does_11 : decode cL_does 11 = .ok (.aload_n 1, 1) := by decide +kernel
theorem dL_does_12 : decode cL_does 12 = .ok (.iload_n 2, 1) := by decide +kernel
theorem dL_does_13 : decode cL_does 13 = .ok (.invokevirtual 140, 3) := by decide +kernel
theorem dL_does_16 : decode cL_does 16 = .ok (.invokestatic 143, 3) := by decide +kernel
theorem dL_does_19 : decode cL_does 19 = .ok (.iload_n 2, 1) := by decide +kernel
theorem dL_does_20 : decode cL_does 20 = .ok (.iconst 1, 1) := by decide +kernel
theorem dL_does_21 : decode cL_does 21 = .ok (.iadd, 1) := by decide +kernel
theorem dL_does_22 : decode cL_does 22 = .ok (.if_icmp .eq 7, 3) := by decide +kernel
theorem dL_does_25 : decode cL_does 25 = .ok (.sipush (-9999), 3) := by decide +kernel
theorem dL_does_28 : decode cL_does 28 = .ok (.ireturn, 1) := by decide +kernel
theorem dL_does_29 : decode cL_does 29 = .ok (.iinc 2 1, 3) := by decide +kernel
theorem dL_does_32 : decode cL_does 32 = .ok (.goto (-30), 3) := by decide +kernel
theorem dL_does_35 : decode cL_does 35 = .ok (.aload_n 0, 1) := by decide +kernel
theorem dL_does_36 : decode cL_does 36 = .ok (.invokestatic 148, 3) := by decide +kernel
theorem dL_does_39 : decode cL_does 39 = .ok (.ireturn, 1) := by decide +kernel
theorem dL_is_0 : decode cL_is 0 = .ok (.aload_n 0, 1) := by decide +kernel
theorem dL_is_1 : decode cL_is 1 = .ok (.iconst 0, 1) := by decide +kernel
theorem dL_is_2 : decode cL_is 2 = .ok (.invokestatic 151, 3) := by decide +kernel
theorem dL_is_5 : decode cL_is 5 = .ok (.iload_n 1, 1) := by decide +kernel
theorem dL_is_6 : decode cL_is 6 = .ok (.if_icmp .ne 25, 3) := by decide +kernel
theorem dL_is_9 : decode cL_is 9 = .ok (.aload_n 0, 1) := by decide +kernel
theorem dL_is_10 : decode cL_is 10 = .ok (.iconst 1, 1) := by decide +kernel
theorem dL_is_11 : decode cL_is 11 = .ok (.invokestatic 151, 3) := by decide +kernel
theorem dL_is_14 : decode cL_is 14 = .ok (.iload_n 2, 1) := by decide +kernel
theorem dL_is_15 : decode cL_is 15 = .ok (.if_icmp .ne 16, 3) := by decide +kernel
theorem dL_is_18 : decode cL_is 18 = .ok (.aload_n 0, 1) := by decide +kernel
theorem dL_is_19 : decode cL_is 19 = .ok (.iconst 2, 1) := by decide +kernel
theorem dL_is_20 : decode cL_is 20 = .ok (.invokestatic 151, 3) := by decide +kernel
theorem dL_is_23 : decode cL_is 23 = .ok (.iload_n 3, 1) := by decide +kernel
theorem dL_is_24 : decode cL_is 24 = .ok (.if_icmp .ne 7, 3) := by decide +kernel
theorem dL_is_27 : decode cL_is 27 = .ok (.iconst 1, 1) := by decide +kernel
theorem dL_is_28 : decode cL_is 28 = .ok (.goto 4, 3) := by decide +kernel
theorem dL_is_31 : decode cL_is 31 = .ok (.iconst 0, 1) := by decide +kernel
theorem dL_is_32 : decode cL_is 32 = .ok (.ireturn, 1) := by decide +kernel
theorem dL_makes_0 : decode cL_makes 0 = .ok (.iconst 3, 1) := by decide +kernel
theorem dL_makes_1 : decode cL_makes 1 = .ok (.aload_n 1, 1) := by decide +kernel
theorem dL_makes_2 : decode cL_makes 2 = .ok (.iconst 0, 1) := by decide +kernel
theorem dL_makes_3 : decode cL_makes 3 = .ok (.invokestatic 159, 3) := by decide +kernel
theorem dL_makes_6 : decode cL_makes 6 = .ok (.iconst 4, 1) := by decide +kernel
theorem dL_makes_7 : decode cL_makes 7 = .ok (.invokestatic 163, 3) := by decide +kernel
theorem dL_makes_10 : decode cL_makes 10 = .ok (.iadd, 1) := by decide +kernel
theorem dL_makes_11 : decode cL_makes 11 = .ok (.istore_n 2, 1) := by decide +kernel
theorem dL_makes_12 : decode cL_makes 12 = .ok (.iconst 0, 1) := by decide +kernel
theorem dL_makes_13 : decode cL_makes 13 = .ok (.istore_n 3, 1) := by decide +kernel
theorem dL_makes_14 : decode cL_makes 14 = .ok (.iload_n 3, 1) := by decide +kernel
theorem dL_makes_15 : decode cL_makes 15 = .ok (.iload_n 2, 1) := by decide +kernel
theorem dL_makes_16 : decode cL_makes 16 = .ok (.if_icmp .ge 19, 3) := by decide +kernel
theorem dL_makes_19 : decode cL_makes 19 = .ok (.aload_n 0, 1) := by decide +kernel
theorem dL_makes_20 : decode cL_makes 20 = .ok (.invokestatic 166, 3) := by decide +kernel
theorem dL_makes_23 : decode cL_makes 23 = .ok (.iload_n 3, 1) := by decide +kernel
theorem dL_makes_24 : decode cL_makes 24 = .ok (.if_icmp .eq 5, 3) := by decide +kernel
theorem dL_makes_27 : decode cL_makes 27 = .ok (.iconst 0, 1) := by decide +kernel
theorem dL_makes_28 : decode cL_makes 28 = .ok (.ireturn, 1) := by decide +kernel
theorem dL_makes_29 : decode cL_makes 29 = .ok (.iinc 3 1, 3) := by decide +kernel
theorem dL_makes_32 : decode cL_makes 32 = .ok (.goto (-18), 3) := by decide +kernel
theorem dL_makes_35 : decode cL_makes 35 = .ok (.iconst 1, 1) := by decide +kernel
theorem dL_makes_36 : decode cL_makes 36 = .ok (.istore_n 3, 1) := by decide +kernel
theorem dL_makes_37 : decode cL_makes 37 = .ok (.iload_n 3, 1) := by decide +kernel
theorem dL_makes_38 : decode cL_makes 38 = .ok (.iload_n 2, 1) := by decide +kernel
theorem dL_makes_39 : decode cL_makes 39 = .ok (.if_icmp .ge 31, 3) := by decide +kernel
theorem dL_makes_42 : decode cL_makes 42 = .ok (.aload_n 0, 1) := by decide +kernel
theorem dL_makes_43 : decode cL_makes 43 = .ok (.iload_n 3, 1) := by decide +kernel
theorem dL_makes_44 : decode cL_makes 44 = .ok (.aload_n 1, 1) := by decide +kernel
theorem dL_makes_45 : decode cL_makes 45 = .ok (.iload_n 3, 1) := by decide +kernel
theorem dL_makes_46 : decode cL_makes 46 = .ok (.invokestatic 159, 3) := by decide +kernel
theorem dL_makes_49 : decode cL_makes 49 = .ok (.iload_n 3, 1) := by decide +kernel
theorem dL_makes_50 : decode cL_makes 50 = .ok (.invokestatic 163, 3) := by decide +kernel
theorem dL_makes_53 : decode cL_makes 53 = .ok (.invokestatic 168, 3) := by decide +kernel
theorem dL_makes_56 : decode cL_makes 56 = .ok (.iload_n 3, 1) := by decide +kernel
theorem dL_makes_57 : decode cL_makes 57 = .ok (.iconst 1, 1) := by decide +kernel
theorem dL_makes_58 : decode cL_makes 58 = .ok (.isub, 1) := by decide +kernel
theorem dL_makes_59 : decode cL_makes 59 = .ok (.if_icmp .eq 5, 3) := by decide +kernel
theorem dL_makes_62 : decode cL_makes 62 = .ok (.iconst 0, 1) := by decide +kernel
theorem dL_makes_63 : decode cL_makes 63 = .ok (.ireturn, 1) := by decide +kernel
theorem dL_makes_64 : decode cL_makes 64 = .ok (.iinc 3 1, 3) := by decide +kernel
theorem dL_makes_67 : decode cL_makes 67 = .ok (.goto (-30), 3) := by decide +kernel
theorem dL_makes_70 : decode cL_makes 70 = .ok (.iconst 0, 1) := by decide +kernel
theorem dL_makes_71 : decode cL_makes 71 = .ok (.istore_n 3, 1) := by decide +kernel
theorem dL_makes_72 : decode cL_makes 72 = .ok (.iload_n 3, 1) := by decide +kernel
theorem dL_makes_73 : decode cL_makes 73 = .ok (.iconst 5, 1) := by decide +kernel
theorem dL_makes_74 : decode cL_makes 74 = .ok (.if_icmp .ge 64, 3) := by decide +kernel
theorem dL_makes_77 : decode cL_makes 77 = .ok (.aload_n 0, 1) := by decide +kernel
theorem dL_makes_78 : decode cL_makes 78 = .ok (.aload_n 1, 1) := by decide +kernel
theorem dL_makes_79 : decode cL_makes 79 = .ok (.bipush 8, 2) := by decide +kernel
theorem dL_makes_81 : decode cL_makes 81 = .ok (.iload_n 3, 1) := by decide +kernel
theorem dL_makes_82 : decode cL_makes 82 = .ok (.iadd, 1) := by decide +kernel
theorem dL_makes_83 : decode cL_makes 83 = .ok (.invokestatic 159, 3) := by decide +kernel
theorem dL_makes_86 : decode cL_makes 86 = .ok (.iload_n 2, 1) := by decide +kernel
theorem dL_makes_87 : decode cL_makes 87 = .ok (.invokestatic 163, 3) := by decide +kernel
theorem dL_makes_90 : decode cL_makes 90 = .ok (.aload_n 1, 1) := by decide +kernel
theorem dL_makes_91 : decode cL_makes 91 = .ok (.bipush 13, 2) := by decide +kernel
theorem dL_makes_93 : decode cL_makes 93 = .ok (.iload_n 3, 1) := by decide +kernel
theorem dL_makes_94 : decode cL_makes 94 = .ok (.iadd, 1) := by decide +kernel
theorem dL_makes_95 : decode cL_makes 95 = .ok (.invokestatic 159, 3) := by decide +kernel
theorem dL_makes_98 : decode cL_makes 98 = .ok (.iload_n 2, 1) := by decide +kernel
theorem dL_makes_99 : decode cL_makes 99 = .ok (.invokestatic 163, 3) := by decide +kernel
theorem dL_makes_102 : decode cL_makes 102 = .ok (.invokestatic 168, 3) := by decide +kernel
theorem dL_makes_105 : decode cL_makes 105 = .ok (.istore 4, 2) := by decide +kernel
theorem dL_makes_107 : decode cL_makes 107 = .ok (.iload 4, 2) := by decide +kernel
theorem dL_makes_109 : decode cL_makes 109 = .ok (.ifCond .ge 23, 3) := by decide +kernel
theorem dL_makes_112 : decode cL_makes 112 = .ok (.aload_n 0, 1) := by decide +kernel
theorem dL_makes_113 : decode cL_makes 113 = .ok (.iconst 0, 1) := by decide +kernel
theorem dL_makes_114 : decode cL_makes 114 = .ok (.invokestatic 151, 3) := by decide +kernel
theorem dL_makes_117 : decode cL_makes 117 = .ok (.iconst 4, 1) := by decide +kernel
theorem dL_makes_118 : decode cL_makes 118 = .ok (.if_icmp .eq 14, 3) := by decide +kernel
theorem dL_makes_121 : decode cL_makes 121 = .ok (.aload_n 0, 1) := by decide +kernel
theorem dL_makes_122 : decode cL_makes 122 = .ok (.iconst 0, 1) := by decide +kernel
theorem dL_makes_123 : decode cL_makes 123 = .ok (.invokestatic 151, 3) := by decide +kernel
theorem dL_makes_126 : decode cL_makes 126 = .ok (.iconst 5, 1) := by decide +kernel
theorem dL_makes_127 : decode cL_makes 127 = .ok (.if_icmp .eq 5, 3) := by decide +kernel
theorem dL_makes_130 : decode cL_makes 130 = .ok (.iconst 0, 1) := by decide +kernel
theorem dL_makes_131 : decode cL_makes 131 = .ok (.ireturn, 1) := by decide +kernel
theorem dL_makes_132 : decode cL_makes 132 = .ok (.iinc 3 1, 3) := by decide +kernel
theorem dL_makes_135 : decode cL_makes 135 = .ok (.goto (-63), 3) := by decide +kernel
theorem dL_makes_138 : decode cL_makes 138 = .ok (.aload_n 1, 1) := by decide +kernel
theorem dL_makes_139 : decode cL_makes 139 = .ok (.bipush 18, 2) := by decide +kernel
theorem dL_makes_141 : decode cL_makes 141 = .ok (.invokestatic 159, 3) := by decide +kernel
theorem dL_makes_144 : decode cL_makes 144 = .ok (.iconst 3, 1) := by decide +kernel
theorem dL_makes_145 : decode cL_makes 145 = .ok (.iand, 1) := by decide +kernel
theorem dL_makes_146 : decode cL_makes 146 = .ok (.ifCond .ne 24, 3) := by decide +kernel
theorem dL_makes_149 : decode cL_makes 149 = .ok (.aload_n 0, 1) := by decide +kernel
theorem dL_makes_150 : decode cL_makes 150 = .ok (.aload_n 1, 1) := by decide +kernel
theorem dL_makes_151 : decode cL_makes 151 = .ok (.bipush 19, 2) := by decide +kernel
theorem dL_makes_153 : decode cL_makes 153 = .ok (.invokestatic 159, 3) := by decide +kernel
theorem dL_makes_156 : decode cL_makes 156 = .ok (.iload_n 2, 1) := by decide +kernel
theorem dL_makes_157 : decode cL_makes 157 = .ok (.invokestatic 163, 3) := by decide +kernel
theorem dL_makes_160 : decode cL_makes 160 = .ok (.iconst 1, 1) := by decide +kernel
theorem dL_makes_161 : decode cL_makes 161 = .ok (.invokestatic 171, 3) := by decide +kernel
theorem dL_makes_164 : decode cL_makes 164 = .ok (.iconst 1, 1) := by decide +kernel
theorem dL_makes_165 : decode cL_makes 165 = .ok (.if_icmp .eq 5, 3) := by decide +kernel
theorem dL_makes_168 : decode cL_makes 168 = .ok (.iconst 0, 1) := by decide +kernel
theorem dL_makes_169 : decode cL_makes 169 = .ok (.ireturn, 1) := by decide +kernel
theorem dL_makes_170 : decode cL_makes 170 = .ok (.aload_n 1, 1) := by decide +kernel
theorem dL_makes_171 : decode cL_makes 171 = .ok (.bipush 20, 2) := by decide +kernel
theorem dL_makes_173 : decode cL_makes 173 = .ok (.invokestatic 159, 3) := by decide +kernel
theorem dL_makes_176 : decode cL_makes 176 = .ok (.iconst 1, 1) := by decide +kernel
theorem dL_makes_177 : decode cL_makes 177 = .ok (.iand, 1) := by decide +kernel
theorem dL_makes_178 : decode cL_makes 178 = .ok (.ifCond .eq 12, 3) := by decide +kernel
theorem dL_makes_181 : decode cL_makes 181 = .ok (.aload_n 0, 1) := by decide +kernel
theorem dL_makes_182 : decode cL_makes 182 = .ok (.iconst 2, 1) := by decide +kernel
theorem dL_makes_183 : decode cL_makes 183 = .ok (.invokestatic 174, 3) := by decide +kernel
theorem dL_makes_186 : decode cL_makes 186 = .ok (.iconst 1, 1) := by decide +kernel
theorem dL_makes_187 : decode cL_makes 187 = .ok (.if_icmp .ne 7, 3) := by decide +kernel
theorem dL_makes_190 : decode cL_makes 190 = .ok (.iconst 1, 1) := by decide +kernel
theorem dL_makes_191 : decode cL_makes 191 = .ok (.goto 4, 3) := by decide +kernel
theorem dL_makes_194 : decode cL_makes 194 = .ok (.iconst 0, 1) := by decide +kernel
theorem dL_makes_195 : decode cL_makes 195 = .ok (.ireturn, 1) := by decide +kernel
theorem dL_asks_0 : decode cL_asks 0 = .ok (.ldc2_w 176, 3) := by decide +kernel
theorem dL_asks_3 : decode cL_asks 3 = .ok (.aload_n 0, 1) := by decide +kernel
theorem dL_asks_4 : decode cL_asks 4 = .ok (.invokestatic 178, 3) := by decide +kernel
theorem dL_asks_7 : decode cL_asks 7 = .ok (.invokestatic 181, 3) := by decide +kernel
theorem dL_asks_10 : decode cL_asks 10 = .ok (.lmul, 1) := by decide +kernel
theorem dL_asks_11 : decode cL_asks 11 = .ok (.aload_n 0, 1) := by decide +kernel
theorem dL_asks_12 : decode cL_asks 12 = .ok (.invokestatic 187, 3) := by decide +kernel
theorem dL_asks_15 : decode cL_asks 15 = .ok (.invokestatic 190, 3) := by decide +kernel
theorem dL_asks_18 : decode cL_asks 18 = .ok (.i2l, 1) := by decide +kernel
theorem dL_asks_19 : decode cL_asks 19 = .ok (.ladd, 1) := by decide +kernel
theorem dL_asks_20 : decode cL_asks 20 = .ok (.lstore_n 1, 1) := by decide +kernel
theorem dL_asks_21 : decode cL_asks 21 = .ok (.iconst 0, 1) := by decide +kernel
theorem dL_asks_22 : decode cL_asks 22 = .ok (.istore_n 3, 1) := by decide +kernel
theorem dL_asks_23 : decode cL_asks 23 = .ok (.iload_n 3, 1) := by decide +kernel
theorem dL_asks_24 : decode cL_asks 24 = .ok (.bipush 9, 2) := by decide +kernel
theorem dL_asks_26 : decode cL_asks 26 = .ok (.if_icmp .ge 22, 3) := by decide +kernel
theorem dL_asks_29 : decode cL_asks 29 = .ok (.ldc2_w 176, 3) := by decide +kernel
theorem dL_asks_32 : decode cL_asks 32 = .ok (.lload_n 1, 1) := by decide +kernel
theorem dL_asks_33 : decode cL_asks 33 = .ok (.lmul, 1) := by decide +kernel
theorem dL_asks_34 : decode cL_asks 34 = .ok (.aload_n 0, 1) := by decide +kernel
theorem dL_asks_35 : decode cL_asks 35 = .ok (.iload_n 3, 1) := by decide +kernel
theorem dL_asks_36 : decode cL_asks 36 = .ok (.invokestatic 196, 3) := by decide +kernel
theorem dL_asks_39 : decode cL_asks 39 = .ok (.i2l, 1) := by decide +kernel
theorem dL_asks_40 : decode cL_asks 40 = .ok (.ladd, 1) := by decide +kernel
theorem dL_asks_41 : decode cL_asks 41 = .ok (.lstore_n 1, 1) := by decide +kernel
theorem dL_asks_42 : decode cL_asks 42 = .ok (.iinc 3 1, 3) := by decide +kernel
theorem dL_asks_45 : decode cL_asks 45 = .ok (.goto (-22), 3) := by decide +kernel
theorem dL_asks_48 : decode cL_asks 48 = .ok (.aload_n 0, 1) := by decide +kernel
theorem dL_asks_49 : decode cL_asks 49 = .ok (.iconst 0, 1) := by decide +kernel
theorem dL_asks_50 : decode cL_asks 50 = .ok (.invokestatic 196, 3) := by decide +kernel
theorem dL_asks_53 : decode cL_asks 53 = .ok (.istore_n 3, 1) := by decide +kernel
theorem dL_asks_54 : decode cL_asks 54 = .ok (.iconst 0, 1) := by decide +kernel
theorem dL_asks_55 : decode cL_asks 55 = .ok (.istore 4, 2) := by decide +kernel
theorem dL_asks_57 : decode cL_asks 57 = .ok (.iload 4, 2) := by decide +kernel
theorem dL_asks_59 : decode cL_asks 59 = .ok (.iload_n 3, 1) := by decide +kernel
theorem dL_asks_60 : decode cL_asks 60 = .ok (.if_icmp .ge 40, 3) := by decide +kernel
theorem dL_asks_63 : decode cL_asks 63 = .ok (.iconst 0, 1) := by decide +kernel
theorem dL_asks_64 : decode cL_asks 64 = .ok (.istore 5, 2) := by decide +kernel
theorem dL_asks_66 : decode cL_asks 66 = .ok (.iload 5, 2) := by decide +kernel
theorem dL_asks_68 : decode cL_asks 68 = .ok (.iconst 4, 1) := by decide +kernel
theorem dL_asks_69 : decode cL_asks 69 = .ok (.if_icmp .ge 25, 3) := by decide +kernel
theorem dL_asks_72 : decode cL_asks 72 = .ok (.ldc2_w 176, 3) := by decide +kernel
theorem dL_asks_75 : decode cL_asks 75 = .ok (.lload_n 1, 1) := by decide +kernel
theorem dL_asks_76 : decode cL_asks 76 = .ok (.lmul, 1) := by decide +kernel
theorem dL_asks_77 : decode cL_asks 77 = .ok (.aload_n 0, 1) := by decide +kernel
theorem dL_asks_78 : decode cL_asks 78 = .ok (.iload 4, 2) := by decide +kernel
theorem dL_asks_80 : decode cL_asks 80 = .ok (.iload 5, 2) := by decide +kernel
theorem dL_asks_82 : decode cL_asks 82 = .ok (.invokestatic 198, 3) := by decide +kernel
theorem dL_asks_85 : decode cL_asks 85 = .ok (.i2l, 1) := by decide +kernel
theorem dL_asks_86 : decode cL_asks 86 = .ok (.ladd, 1) := by decide +kernel
theorem dL_asks_87 : decode cL_asks 87 = .ok (.lstore_n 1, 1) := by decide +kernel
theorem dL_asks_88 : decode cL_asks 88 = .ok (.iinc 5 1, 3) := by decide +kernel
theorem dL_asks_91 : decode cL_asks 91 = .ok (.goto (-25), 3) := by decide +kernel
theorem dL_asks_94 : decode cL_asks 94 = .ok (.iinc 4 1, 3) := by decide +kernel
theorem dL_asks_97 : decode cL_asks 97 = .ok (.goto (-40), 3) := by decide +kernel
theorem dL_asks_100 : decode cL_asks 100 = .ok (.iconst 0, 1) := by decide +kernel
theorem dL_asks_101 : decode cL_asks 101 = .ok (.istore 4, 2) := by decide +kernel
theorem dL_asks_103 : decode cL_asks 103 = .ok (.iload 4, 2) := by decide +kernel
theorem dL_asks_105 : decode cL_asks 105 = .ok (.aload_n 0, 1) := by decide +kernel
theorem dL_asks_106 : decode cL_asks 106 = .ok (.iconst 1, 1) := by decide +kernel
theorem dL_asks_107 : decode cL_asks 107 = .ok (.invokestatic 196, 3) := by decide +kernel
theorem dL_asks_110 : decode cL_asks 110 = .ok (.if_icmp .ge 37, 3) := by decide +kernel
theorem dL_asks_113 : decode cL_asks 113 = .ok (.ldc2_w 176, 3) := by decide +kernel
theorem dL_asks_116 : decode cL_asks 116 = .ok (.ldc2_w 176, 3) := by decide +kernel
theorem dL_asks_119 : decode cL_asks 119 = .ok (.lload_n 1, 1) := by decide +kernel
theorem dL_asks_120 : decode cL_asks 120 = .ok (.lmul, 1) := by decide +kernel
theorem dL_asks_121 : decode cL_asks 121 = .ok (.aload_n 0, 1) := by decide +kernel
theorem dL_asks_122 : decode cL_asks 122 = .ok (.iload 4, 2) := by decide +kernel
theorem dL_asks_124 : decode cL_asks 124 = .ok (.iconst 0, 1) := by decide +kernel
theorem dL_asks_125 : decode cL_asks 125 = .ok (.invokestatic 200, 3) := by decide +kernel
theorem dL_asks_128 : decode cL_asks 128 = .ok (.i2l, 1) := by decide +kernel
theorem dL_asks_129 : decode cL_asks 129 = .ok (.ladd, 1) := by decide +kernel
theorem dL_asks_130 : decode cL_asks 130 = .ok (.lmul, 1) := by decide +kernel
theorem dL_asks_131 : decode cL_asks 131 = .ok (.aload_n 0, 1) := by decide +kernel
theorem dL_asks_132 : decode cL_asks 132 = .ok (.iload 4, 2) := by decide +kernel
theorem dL_asks_134 : decode cL_asks 134 = .ok (.iconst 1, 1) := by decide +kernel
theorem dL_asks_135 : decode cL_asks 135 = .ok (.invokestatic 200, 3) := by decide +kernel
theorem dL_asks_138 : decode cL_asks 138 = .ok (.i2l, 1) := by decide +kernel
theorem dL_asks_139 : decode cL_asks 139 = .ok (.ladd, 1) := by decide +kernel
theorem dL_asks_140 : decode cL_asks 140 = .ok (.lstore_n 1, 1) := by decide +kernel
theorem dL_asks_141 : decode cL_asks 141 = .ok (.iinc 4 1, 3) := by decide +kernel
theorem dL_asks_144 : decode cL_asks 144 = .ok (.goto (-41), 3) := by decide +kernel
theorem dL_asks_147 : decode cL_asks 147 = .ok (.iconst 0, 1) := by decide +kernel
theorem dL_asks_148 : decode cL_asks 148 = .ok (.istore 4, 2) := by decide +kernel
theorem dL_asks_150 : decode cL_asks 150 = .ok (.iload 4, 2) := by decide +kernel
theorem dL_asks_152 : decode cL_asks 152 = .ok (.iconst 3, 1) := by decide +kernel
theorem dL_asks_153 : decode cL_asks 153 = .ok (.if_icmp .ge 37, 3) := by decide +kernel
theorem dL_asks_156 : decode cL_asks 156 = .ok (.ldc2_w 176, 3) := by decide +kernel
theorem dL_asks_159 : decode cL_asks 159 = .ok (.ldc2_w 176, 3) := by decide +kernel
theorem dL_asks_162 : decode cL_asks 162 = .ok (.lload_n 1, 1) := by decide +kernel
theorem dL_asks_163 : decode cL_asks 163 = .ok (.lmul, 1) := by decide +kernel
theorem dL_asks_164 : decode cL_asks 164 = .ok (.aload_n 0, 1) := by decide +kernel
theorem dL_asks_165 : decode cL_asks 165 = .ok (.iload 4, 2) := by decide +kernel
theorem dL_asks_167 : decode cL_asks 167 = .ok (.iconst 0, 1) := by decide +kernel
theorem dL_asks_168 : decode cL_asks 168 = .ok (.invokestatic 202, 3) := by decide +kernel
theorem dL_asks_171 : decode cL_asks 171 = .ok (.i2l, 1) := by decide +kernel
theorem dL_asks_172 : decode cL_asks 172 = .ok (.ladd, 1) := by decide +kernel
theorem dL_asks_173 : decode cL_asks 173 = .ok (.lmul, 1) := by decide +kernel
theorem dL_asks_174 : decode cL_asks 174 = .ok (.aload_n 0, 1) := by decide +kernel
theorem dL_asks_175 : decode cL_asks 175 = .ok (.iload 4, 2) := by decide +kernel
theorem dL_asks_177 : decode cL_asks 177 = .ok (.iconst 1, 1) := by decide +kernel
theorem dL_asks_178 : decode cL_asks 178 = .ok (.invokestatic 202, 3) := by decide +kernel
theorem dL_asks_181 : decode cL_asks 181 = .ok (.i2l, 1) := by decide +kernel
theorem dL_asks_182 : decode cL_asks 182 = .ok (.ladd, 1) := by decide +kernel
theorem dL_asks_183 : decode cL_asks 183 = .ok (.lstore_n 1, 1) := by decide +kernel
theorem dL_asks_184 : decode cL_asks 184 = .ok (.iinc 4 1, 3) := by decide +kernel
theorem dL_asks_187 : decode cL_asks 187 = .ok (.goto (-37), 3) := by decide +kernel
theorem dL_asks_190 : decode cL_asks 190 = .ok (.bipush 19, 2) := by decide +kernel
theorem dL_asks_192 : decode cL_asks 192 = .ok (.istore 4, 2) := by decide +kernel
theorem dL_asks_194 : decode cL_asks 194 = .ok (.iload 4, 2) := by decide +kernel
theorem dL_asks_196 : decode cL_asks 196 = .ok (.sipush 162, 3) := by decide +kernel
theorem dL_asks_199 : decode cL_asks 199 = .ok (.iload_n 3, 1) := by decide +kernel
theorem dL_asks_200 : decode cL_asks 200 = .ok (.imul, 1) := by decide +kernel
theorem dL_asks_201 : decode cL_asks 201 = .ok (.if_icmp .ge 120, 3) := by decide +kernel
theorem dL_asks_204 : decode cL_asks 204 = .ok (.aload_n 0, 1) := by decide +kernel
theorem dL_asks_205 : decode cL_asks 205 = .ok (.iload 4, 2) := by decide +kernel
theorem dL_asks_207 : decode cL_asks 207 = .ok (.iconst 0, 1) := by decide +kernel
theorem dL_asks_208 : decode cL_asks 208 = .ok (.invokestatic 204, 3) := by decide +kernel
theorem dL_asks_211 : decode cL_asks 211 = .ok (.ifCond .ge 6, 3) := by decide +kernel
theorem dL_asks_214 : decode cL_asks 214 = .ok (.goto 101, 3) := by decide +kernel
theorem dL_asks_217 : decode cL_asks 217 = .ok (.iconst 4, 1) := by decide +kernel
theorem dL_asks_218 : decode cL_asks 218 = .ok (.istore 5, 2) := by decide +kernel
theorem dL_asks_220 : decode cL_asks 220 = .ok (.iload 5, 2) := by decide +kernel
theorem dL_asks_222 : decode cL_asks 222 = .ok (.bipush 7, 2) := by decide +kernel
theorem dL_asks_224 : decode cL_asks 224 = .ok (.if_icmp .ge 25, 3) := by decide +kernel
theorem dL_asks_227 : decode cL_asks 227 = .ok (.ldc2_w 176, 3) := by decide +kernel
theorem dL_asks_230 : decode cL_asks 230 = .ok (.lload_n 1, 1) := by decide +kernel
theorem dL_asks_231 : decode cL_asks 231 = .ok (.lmul, 1) := by decide +kernel
theorem dL_asks_232 : decode cL_asks 232 = .ok (.aload_n 0, 1) := by decide +kernel
theorem dL_asks_233 : decode cL_asks 233 = .ok (.iload 4, 2) := by decide +kernel
theorem dL_asks_235 : decode cL_asks 235 = .ok (.iload 5, 2) := by decide +kernel
theorem dL_asks_237 : decode cL_asks 237 = .ok (.invokestatic 204, 3) := by decide +kernel
theorem dL_asks_240 : decode cL_asks 240 = .ok (.i2l, 1) := by decide +kernel
theorem dL_asks_241 : decode cL_asks 241 = .ok (.ladd, 1) := by decide +kernel
theorem dL_asks_242 : decode cL_asks 242 = .ok (.lstore_n 1, 1) := by decide +kernel
theorem dL_asks_243 : decode cL_asks 243 = .ok (.iinc 5 1, 3) := by decide +kernel
theorem dL_asks_246 : decode cL_asks 246 = .ok (.goto (-26), 3) := by decide +kernel
theorem dL_asks_249 : decode cL_asks 249 = .ok (.ldc2_w 176, 3) := by decide +kernel
theorem dL_asks_252 : decode cL_asks 252 = .ok (.ldc2_w 176, 3) := by decide +kernel
theorem dL_asks_255 : decode cL_asks 255 = .ok (.ldc2_w 176, 3) := by decide +kernel
theorem dL_asks_258 : decode cL_asks 258 = .ok (.ldc2_w 176, 3) := by decide +kernel
theorem dL_asks_261 : decode cL_asks 261 = .ok (.lload_n 1, 1) := by decide +kernel
theorem dL_asks_262 : decode cL_asks 262 = .ok (.lmul, 1) := by decide +kernel
theorem dL_asks_263 : decode cL_asks 263 = .ok (.aload_n 0, 1) := by decide +kernel
theorem dL_asks_264 : decode cL_asks 264 = .ok (.iload 4, 2) := by decide +kernel
theorem dL_asks_266 : decode cL_asks 266 = .ok (.invokestatic 206, 3) := by decide +kernel
theorem dL_asks_269 : decode cL_asks 269 = .ok (.i2l, 1) := by decide +kernel
theorem dL_asks_270 : decode cL_asks 270 = .ok (.ladd, 1) := by decide +kernel
theorem dL_asks_271 : decode cL_asks 271 = .ok (.lmul, 1) := by decide +kernel
theorem dL_asks_272 : decode cL_asks 272 = .ok (.aload_n 0, 1) := by decide +kernel
theorem dL_asks_273 : decode cL_asks 273 = .ok (.iload 4, 2) := by decide +kernel
theorem dL_asks_275 : decode cL_asks 275 = .ok (.invokestatic 208, 3) := by decide +kernel
theorem dL_asks_278 : decode cL_asks 278 = .ok (.i2l, 1) := by decide +kernel
theorem dL_asks_279 : decode cL_asks 279 = .ok (.ladd, 1) := by decide +kernel
theorem dL_asks_280 : decode cL_asks 280 = .ok (.lmul, 1) := by decide +kernel
theorem dL_asks_281 : decode cL_asks 281 = .ok (.aload_n 0, 1) := by decide +kernel
theorem dL_asks_282 : decode cL_asks 282 = .ok (.iload 4, 2) := by decide +kernel
theorem dL_asks_284 : decode cL_asks 284 = .ok (.invokestatic 210, 3) := by decide +kernel
theorem dL_asks_287 : decode cL_asks 287 = .ok (.i2l, 1) := by decide +kernel
theorem dL_asks_288 : decode cL_asks 288 = .ok (.ladd, 1) := by decide +kernel
theorem dL_asks_289 : decode cL_asks 289 = .ok (.lmul, 1) := by decide +kernel
theorem dL_asks_290 : decode cL_asks 290 = .ok (.aload_n 0, 1) := by decide +kernel
theorem dL_asks_291 : decode cL_asks 291 = .ok (.iload 4, 2) := by decide +kernel
theorem dL_asks_293 : decode cL_asks 293 = .ok (.invokestatic 213, 3) := by decide +kernel
theorem dL_asks_296 : decode cL_asks 296 = .ok (.i2l, 1) := by decide +kernel
theorem dL_asks_297 : decode cL_asks 297 = .ok (.ladd, 1) := by decide +kernel
theorem dL_asks_298 : decode cL_asks 298 = .ok (.lstore_n 1, 1) := by decide +kernel
theorem dL_asks_299 : decode cL_asks 299 = .ok (.ldc2_w 176, 3) := by decide +kernel
theorem dL_asks_302 : decode cL_asks 302 = .ok (.lload_n 1, 1) := by decide +kernel
theorem dL_asks_303 : decode cL_asks 303 = .ok (.lmul, 1) := by decide +kernel
theorem dL_asks_304 : decode cL_asks 304 = .ok (.aload_n 0, 1) := by decide +kernel
theorem dL_asks_305 : decode cL_asks 305 = .ok (.iload 4, 2) := by decide +kernel
theorem dL_asks_307 : decode cL_asks 307 = .ok (.iconst 0, 1) := by decide +kernel
theorem dL_asks_308 : decode cL_asks 308 = .ok (.iconst 1, 1) := by decide +kernel
theorem dL_asks_309 : decode cL_asks 309 = .ok (.invokestatic 215, 3) := by decide +kernel
theorem dL_asks_312 : decode cL_asks 312 = .ok (.i2l, 1) := by decide +kernel
theorem dL_asks_313 : decode cL_asks 313 = .ok (.ladd, 1) := by decide +kernel
theorem dL_asks_314 : decode cL_asks 314 = .ok (.lstore_n 1, 1) := by decide +kernel
theorem dL_asks_315 : decode cL_asks 315 = .ok (.iinc 4 57, 3) := by decide +kernel
theorem dL_asks_318 : decode cL_asks 318 = .ok (.goto (-124), 3) := by decide +kernel
theorem dL_asks_321 : decode cL_asks 321 = .ok (.iconst 0, 1) := by decide +kernel
theorem dL_asks_322 : decode cL_asks 322 = .ok (.istore 4, 2) := by decide +kernel
theorem dL_asks_324 : decode cL_asks 324 = .ok (.iload 4, 2) := by decide +kernel
theorem dL_asks_326 : decode cL_asks 326 = .ok (.bipush 6, 2) := by decide +kernel
theorem dL_asks_328 : decode cL_asks 328 = .ok (.if_icmp .ge 23, 3) := by decide +kernel
theorem dL_asks_331 : decode cL_asks 331 = .ok (.ldc2_w 176, 3) := by decide +kernel
theorem dL_asks_334 : decode cL_asks 334 = .ok (.lload_n 1, 1) := by decide +kernel
theorem dL_asks_335 : decode cL_asks 335 = .ok (.lmul, 1) := by decide +kernel
theorem dL_asks_336 : decode cL_asks 336 = .ok (.aload_n 0, 1) := by decide +kernel
theorem dL_asks_337 : decode cL_asks 337 = .ok (.iload 4, 2) := by decide +kernel
theorem dL_asks_339 : decode cL_asks 339 = .ok (.invokestatic 218, 3) := by decide +kernel
theorem dL_asks_342 : decode cL_asks 342 = .ok (.i2l, 1) := by decide +kernel
theorem dL_asks_343 : decode cL_asks 343 = .ok (.ladd, 1) := by decide +kernel
theorem dL_asks_344 : decode cL_asks 344 = .ok (.lstore_n 1, 1) := by decide +kernel
theorem dL_asks_345 : decode cL_asks 345 = .ok (.iinc 4 1, 3) := by decide +kernel
theorem dL_asks_348 : decode cL_asks 348 = .ok (.goto (-24), 3) := by decide +kernel
theorem dL_asks_351 : decode cL_asks 351 = .ok (.aload_n 0, 1) := by decide +kernel
theorem dL_asks_352 : decode cL_asks 352 = .ok (.invokevirtual 154, 3) := by decide +kernel
theorem dL_asks_355 : decode cL_asks 355 = .ok (.istore 4, 2) := by decide +kernel
theorem dL_asks_357 : decode cL_asks 357 = .ok (.iconst 0, 1) := by decide +kernel
theorem dL_asks_358 : decode cL_asks 358 = .ok (.istore 5, 2) := by decide +kernel
theorem dL_asks_360 : decode cL_asks 360 = .ok (.iload 5, 2) := by decide +kernel
theorem dL_asks_362 : decode cL_asks 362 = .ok (.iload 4, 2) := by decide +kernel
theorem dL_asks_364 : decode cL_asks 364 = .ok (.if_icmp .ge 23, 3) := by decide +kernel
theorem dL_asks_367 : decode cL_asks 367 = .ok (.ldc2_w 176, 3) := by decide +kernel
theorem dL_asks_370 : decode cL_asks 370 = .ok (.lload_n 1, 1) := by decide +kernel
theorem dL_asks_371 : decode cL_asks 371 = .ok (.lmul, 1) := by decide +kernel
theorem dL_asks_372 : decode cL_asks 372 = .ok (.aload_n 0, 1) := by decide +kernel
theorem dL_asks_373 : decode cL_asks 373 = .ok (.iload 5, 2) := by decide +kernel
theorem dL_asks_375 : decode cL_asks 375 = .ok (.invokestatic 157, 3) := by decide +kernel
theorem dL_asks_378 : decode cL_asks 378 = .ok (.i2l, 1) := by decide +kernel
theorem dL_asks_379 : decode cL_asks 379 = .ok (.ladd, 1) := by decide +kernel
theorem dL_asks_380 : decode cL_asks 380 = .ok (.lstore_n 1, 1) := by decide +kernel
theorem dL_asks_381 : decode cL_asks 381 = .ok (.iinc 5 1, 3) := by decide +kernel
theorem dL_asks_384 : decode cL_asks 384 = .ok (.goto (-24), 3) := by decide +kernel
theorem dL_asks_387 : decode cL_asks 387 = .ok (.ldc2_w 176, 3) := by decide +kernel
theorem dL_asks_390 : decode cL_asks 390 = .ok (.ldc2_w 176, 3) := by decide +kernel
theorem dL_asks_393 : decode cL_asks 393 = .ok (.ldc2_w 176, 3) := by decide +kernel
theorem dL_asks_396 : decode cL_asks 396 = .ok (.ldc2_w 176, 3) := by decide +kernel
theorem dL_asks_399 : decode cL_asks 399 = .ok (.lload_n 1, 1) := by decide +kernel
theorem dL_asks_400 : decode cL_asks 400 = .ok (.lmul, 1) := by decide +kernel
theorem dL_asks_401 : decode cL_asks 401 = .ok (.aload_n 0, 1) := by decide +kernel
theorem dL_asks_402 : decode cL_asks 402 = .ok (.iconst 0, 1) := by decide +kernel
theorem dL_asks_403 : decode cL_asks 403 = .ok (.invokestatic 220, 3) := by decide +kernel
theorem dL_asks_406 : decode cL_asks 406 = .ok (.i2l, 1) := by decide +kernel
theorem dL_asks_407 : decode cL_asks 407 = .ok (.ladd, 1) := by decide +kernel
theorem dL_asks_408 : decode cL_asks 408 = .ok (.lmul, 1) := by decide +kernel
theorem dL_asks_409 : decode cL_asks 409 = .ok (.aload_n 0, 1) := by decide +kernel
theorem dL_asks_410 : decode cL_asks 410 = .ok (.iconst 1, 1) := by decide +kernel
theorem dL_asks_411 : decode cL_asks 411 = .ok (.invokestatic 220, 3) := by decide +kernel
theorem dL_asks_414 : decode cL_asks 414 = .ok (.i2l, 1) := by decide +kernel
theorem dL_asks_415 : decode cL_asks 415 = .ok (.ladd, 1) := by decide +kernel
theorem dL_asks_416 : decode cL_asks 416 = .ok (.lmul, 1) := by decide +kernel
theorem dL_asks_417 : decode cL_asks 417 = .ok (.aload_n 0, 1) := by decide +kernel
theorem dL_asks_418 : decode cL_asks 418 = .ok (.iconst 0, 1) := by decide +kernel
theorem dL_asks_419 : decode cL_asks 419 = .ok (.iconst 1, 1) := by decide +kernel
theorem dL_asks_420 : decode cL_asks 420 = .ok (.invokestatic 223, 3) := by decide +kernel
theorem dL_asks_423 : decode cL_asks 423 = .ok (.i2l, 1) := by decide +kernel
theorem dL_asks_424 : decode cL_asks 424 = .ok (.ladd, 1) := by decide +kernel
theorem dL_asks_425 : decode cL_asks 425 = .ok (.lmul, 1) := by decide +kernel
theorem dL_asks_426 : decode cL_asks 426 = .ok (.aload_n 0, 1) := by decide +kernel
theorem dL_asks_427 : decode cL_asks 427 = .ok (.invokestatic 225, 3) := by decide +kernel
theorem dL_asks_430 : decode cL_asks 430 = .ok (.i2l, 1) := by decide +kernel
theorem dL_asks_431 : decode cL_asks 431 = .ok (.ladd, 1) := by decide +kernel
theorem dL_asks_432 : decode cL_asks 432 = .ok (.lreturn, 1) := by decide +kernel
theorem dL_changes_0 : decode cL_changes 0 = .ok (.iload_n 1, 1) := by decide +kernel
theorem dL_changes_1 : decode cL_changes 1 = .ok (.iconst 4, 1) := by decide +kernel
theorem dL_changes_2 : decode cL_changes 2 = .ok (.ishr, 1) := by decide +kernel
theorem dL_changes_3 : decode cL_changes 3 = .ok (.aload_n 0, 1) := by decide +kernel
theorem dL_changes_4 : decode cL_changes 4 = .ok (.iconst 0, 1) := by decide +kernel
theorem dL_changes_5 : decode cL_changes 5 = .ok (.invokestatic 196, 3) := by decide +kernel
theorem dL_changes_8 : decode cL_changes 8 = .ok (.iconst 1, 1) := by decide +kernel
theorem dL_changes_9 : decode cL_changes 9 = .ok (.iadd, 1) := by decide +kernel
theorem dL_changes_10 : decode cL_changes 10 = .ok (.invokestatic 163, 3) := by decide +kernel
theorem dL_changes_13 : decode cL_changes 13 = .ok (.istore_n 2, 1) := by decide +kernel
theorem dL_changes_14 : decode cL_changes 14 = .ok (.iload_n 1, 1) := by decide +kernel
theorem dL_changes_15 : decode cL_changes 15 = .ok (.bipush 7, 2) := by decide +kernel
theorem dL_changes_17 : decode cL_changes 17 = .ok (.ishr, 1) := by decide +kernel
theorem dL_changes_18 : decode cL_changes 18 = .ok (.aload_n 0, 1) := by decide +kernel
theorem dL_changes_19 : decode cL_changes 19 = .ok (.iconst 0, 1) := by decide +kernel
theorem dL_changes_20 : decode cL_changes 20 = .ok (.invokestatic 196, 3) := by decide +kernel
theorem dL_changes_23 : decode cL_changes 23 = .ok (.iconst 1, 1) := by decide +kernel
theorem dL_changes_24 : decode cL_changes 24 = .ok (.iadd, 1) := by decide +kernel
theorem dL_changes_25 : decode cL_changes 25 = .ok (.invokestatic 163, 3) := by decide +kernel
theorem dL_changes_28 : decode cL_changes 28 = .ok (.istore_n 3, 1) := by decide +kernel
theorem dL_changes_29 : decode cL_changes 29 = .ok (.iload_n 1, 1) := by decide +kernel
theorem dL_changes_30 : decode cL_changes 30 = .ok (.bipush 20, 2) := by decide +kernel
theorem dL_changes_32 : decode cL_changes 32 = .ok (.invokestatic 163, 3) := by decide +kernel
theorem dL_changes_35 : decode cL_changes 35 = .ok (.tableswitch 363 0 16 #[81, 94, 94, 94, 109, 124, 150, 170, 170, 170, 170, 227, 227, 227, 247, 260, 260], 81) := by decide +kernel
theorem dL_changes_116 : decode cL_changes 116 = .ok (.aload_n 0, 1) := by decide +kernel
theorem dL_changes_117 : decode cL_changes 117 = .ok (.invokestatic 166, 3) := by decide +kernel
theorem dL_changes_120 : decode cL_changes 120 = .ok (.ifCond .lt 7, 3) := by decide +kernel
theorem dL_changes_123 : decode cL_changes 123 = .ok (.iconst 1, 1) := by decide +kernel
theorem dL_changes_124 : decode cL_changes 124 = .ok (.goto 4, 3) := by decide +kernel
theorem dL_changes_127 : decode cL_changes 127 = .ok (.iconst 0, 1) := by decide +kernel
theorem dL_changes_128 : decode cL_changes 128 = .ok (.ireturn, 1) := by decide +kernel
theorem dL_changes_129 : decode cL_changes 129 = .ok (.aload_n 0, 1) := by decide +kernel
theorem dL_changes_130 : decode cL_changes 130 = .ok (.iload_n 2, 1) := by decide +kernel
theorem dL_changes_131 : decode cL_changes 131 = .ok (.iload_n 3, 1) := by decide +kernel
theorem dL_changes_132 : decode cL_changes 132 = .ok (.invokestatic 168, 3) := by decide +kernel
theorem dL_changes_135 : decode cL_changes 135 = .ok (.ifCond .lt 7, 3) := by decide +kernel
theorem dL_changes_138 : decode cL_changes 138 = .ok (.iconst 1, 1) := by decide +kernel
theorem dL_changes_139 : decode cL_changes 139 = .ok (.goto 4, 3) := by decide +kernel
theorem dL_changes_142 : decode cL_changes 142 = .ok (.iconst 0, 1) := by decide +kernel
theorem dL_changes_143 : decode cL_changes 143 = .ok (.ireturn, 1) := by decide +kernel
theorem dL_changes_144 : decode cL_changes 144 = .ok (.aload_n 0, 1) := by decide +kernel
theorem dL_changes_145 : decode cL_changes 145 = .ok (.iload_n 2, 1) := by decide +kernel
theorem dL_changes_146 : decode cL_changes 146 = .ok (.iload_n 3, 1) := by decide +kernel
theorem dL_changes_147 : decode cL_changes 147 = .ok (.invokestatic 227, 3) := by decide +kernel
theorem dL_changes_150 : decode cL_changes 150 = .ok (.ifCond .lt 7, 3) := by decide +kernel
theorem dL_changes_153 : decode cL_changes 153 = .ok (.iconst 1, 1) := by decide +kernel
theorem dL_changes_154 : decode cL_changes 154 = .ok (.goto 4, 3) := by decide +kernel
theorem dL_changes_157 : decode cL_changes 157 = .ok (.iconst 0, 1) := by decide +kernel
theorem dL_changes_158 : decode cL_changes 158 = .ok (.ireturn, 1) := by decide +kernel
theorem dL_changes_159 : decode cL_changes 159 = .ok (.aload_n 0, 1) := by decide +kernel
theorem dL_changes_160 : decode cL_changes 160 = .ok (.iload_n 2, 1) := by decide +kernel
theorem dL_changes_161 : decode cL_changes 161 = .ok (.iload_n 1, 1) := by decide +kernel
theorem dL_changes_162 : decode cL_changes 162 = .ok (.bipush 64, 2) := by decide +kernel
theorem dL_changes_164 : decode cL_changes 164 = .ok (.iand, 1) := by decide +kernel
theorem dL_changes_165 : decode cL_changes 165 = .ok (.ifCond .ne 7, 3) := by decide +kernel
theorem dL_changes_168 : decode cL_changes 168 = .ok (.iconst 1, 1) := by decide +kernel
theorem dL_changes_169 : decode cL_changes 169 = .ok (.goto 4, 3) := by decide +kernel
theorem dL_changes_172 : decode cL_changes 172 = .ok (.iconst 0, 1) := by decide +kernel
theorem dL_changes_173 : decode cL_changes 173 = .ok (.invokestatic 171, 3) := by decide +kernel
theorem dL_changes_176 : decode cL_changes 176 = .ok (.ifCond .lt 7, 3) := by decide +kernel
theorem dL_changes_179 : decode cL_changes 179 = .ok (.iconst 1, 1) := by decide +kernel
theorem dL_changes_180 : decode cL_changes 180 = .ok (.goto 4, 3) := by decide +kernel
theorem dL_changes_183 : decode cL_changes 183 = .ok (.iconst 0, 1) := by decide +kernel
theorem dL_changes_184 : decode cL_changes 184 = .ok (.ireturn, 1) := by decide +kernel
theorem dL_changes_185 : decode cL_changes 185 = .ok (.aload_n 0, 1) := by decide +kernel
theorem dL_changes_186 : decode cL_changes 186 = .ok (.iload_n 1, 1) := by decide +kernel
theorem dL_changes_187 : decode cL_changes 187 = .ok (.iconst 4, 1) := by decide +kernel
theorem dL_changes_188 : decode cL_changes 188 = .ok (.ishr, 1) := by decide +kernel
theorem dL_changes_189 : decode cL_changes 189 = .ok (.iconst 4, 1) := by decide +kernel
theorem dL_changes_190 : decode cL_changes 190 = .ok (.invokestatic 163, 3) := by decide +kernel
theorem dL_changes_193 : decode cL_changes 193 = .ok (.invokestatic 174, 3) := by decide +kernel
theorem dL_changes_196 : decode cL_changes 196 = .ok (.ifCond .lt 7, 3) := by decide +kernel
theorem dL_changes_199 : decode cL_changes 199 = .ok (.iconst 1, 1) := by decide +kernel
theorem dL_changes_200 : decode cL_changes 200 = .ok (.goto 4, 3) := by decide +kernel
theorem dL_changes_203 : decode cL_changes 203 = .ok (.iconst 0, 1) := by decide +kernel
theorem dL_changes_204 : decode cL_changes 204 = .ok (.ireturn, 1) := by decide +kernel
theorem dL_changes_205 : decode cL_changes 205 = .ok (.aload_n 0, 1) := by decide +kernel
theorem dL_changes_206 : decode cL_changes 206 = .ok (.sipush 162, 3) := by decide +kernel
theorem dL_changes_209 : decode cL_changes 209 = .ok (.iload_n 2, 1) := by decide +kernel
theorem dL_changes_210 : decode cL_changes 210 = .ok (.imul, 1) := by decide +kernel
theorem dL_changes_211 : decode cL_changes 211 = .ok (.bipush 18, 2) := by decide +kernel
theorem dL_changes_213 : decode cL_changes 213 = .ok (.iload_n 3, 1) := by decide +kernel
theorem dL_changes_214 : decode cL_changes 214 = .ok (.imul, 1) := by decide +kernel
theorem dL_changes_215 : decode cL_changes 215 = .ok (.iadd, 1) := by decide +kernel
theorem dL_changes_216 : decode cL_changes 216 = .ok (.aload_n 0, 1) := by decide +kernel
theorem dL_changes_217 : decode cL_changes 217 = .ok (.iconst 3, 1) := by decide +kernel
theorem dL_changes_218 : decode cL_changes 218 = .ok (.invokestatic 196, 3) := by decide +kernel
theorem dL_changes_221 : decode cL_changes 221 = .ok (.iconst 1, 1) := by decide +kernel
theorem dL_changes_222 : decode cL_changes 222 = .ok (.if_icmp .ne 7, 3) := by decide +kernel
theorem dL_changes_225 : decode cL_changes 225 = .ok (.iconst 0, 1) := by decide +kernel
theorem dL_changes_226 : decode cL_changes 226 = .ok (.goto 16, 3) := by decide +kernel
theorem dL_changes_229 : decode cL_changes 229 = .ok (.iconst 2, 1) := by decide +kernel
theorem dL_changes_230 : decode cL_changes 230 = .ok (.iconst 2, 1) := by decide +kernel
theorem dL_changes_231 : decode cL_changes 231 = .ok (.iload_n 1, 1) := by decide +kernel
theorem dL_changes_232 : decode cL_changes 232 = .ok (.bipush 9, 2) := by decide +kernel
theorem dL_changes_234 : decode cL_changes 234 = .ok (.ishr, 1) := by decide +kernel
theorem dL_changes_235 : decode cL_changes 235 = .ok (.bipush 8, 2) := by decide +kernel
theorem dL_changes_237 : decode cL_changes 237 = .ok (.invokestatic 163, 3) := by decide +kernel
theorem dL_changes_240 : decode cL_changes 240 = .ok (.imul, 1) := by decide +kernel
theorem dL_changes_241 : decode cL_changes 241 = .ok (.iadd, 1) := by decide +kernel
theorem dL_changes_242 : decode cL_changes 242 = .ok (.iadd, 1) := by decide +kernel
theorem dL_changes_243 : decode cL_changes 243 = .ok (.iload_n 1, 1) := by decide +kernel
theorem dL_changes_244 : decode cL_changes 244 = .ok (.bipush 8, 2) := by decide +kernel
theorem dL_changes_246 : decode cL_changes 246 = .ok (.ishr, 1) := by decide +kernel
theorem dL_changes_247 : decode cL_changes 247 = .ok (.iconst 1, 1) := by decide +kernel
theorem dL_changes_248 : decode cL_changes 248 = .ok (.iand, 1) := by decide +kernel
theorem dL_changes_249 : decode cL_changes 249 = .ok (.iadd, 1) := by decide +kernel
theorem dL_changes_250 : decode cL_changes 250 = .ok (.invokestatic 229, 3) := by decide +kernel
theorem dL_changes_253 : decode cL_changes 253 = .ok (.ifCond .lt 7, 3) := by decide +kernel
theorem dL_changes_256 : decode cL_changes 256 = .ok (.iconst 1, 1) := by decide +kernel
theorem dL_changes_257 : decode cL_changes 257 = .ok (.goto 4, 3) := by decide +kernel
theorem dL_changes_260 : decode cL_changes 260 = .ok (.iconst 0, 1) := by decide +kernel
theorem dL_changes_261 : decode cL_changes 261 = .ok (.ireturn, 1) := by decide +kernel
theorem dL_changes_262 : decode cL_changes 262 = .ok (.aload_n 0, 1) := by decide +kernel
theorem dL_changes_263 : decode cL_changes 263 = .ok (.iload_n 1, 1) := by decide +kernel
theorem dL_changes_264 : decode cL_changes 264 = .ok (.iconst 4, 1) := by decide +kernel
theorem dL_changes_265 : decode cL_changes 265 = .ok (.ishr, 1) := by decide +kernel
theorem dL_changes_266 : decode cL_changes 266 = .ok (.iconst 5, 1) := by decide +kernel
theorem dL_changes_267 : decode cL_changes 267 = .ok (.invokestatic 163, 3) := by decide +kernel
theorem dL_changes_270 : decode cL_changes 270 = .ok (.invokestatic 231, 3) := by decide +kernel
theorem dL_changes_273 : decode cL_changes 273 = .ok (.ifCond .lt 7, 3) := by decide +kernel
theorem dL_changes_276 : decode cL_changes 276 = .ok (.iconst 1, 1) := by decide +kernel
theorem dL_changes_277 : decode cL_changes 277 = .ok (.goto 4, 3) := by decide +kernel
theorem dL_changes_280 : decode cL_changes 280 = .ok (.iconst 0, 1) := by decide +kernel
theorem dL_changes_281 : decode cL_changes 281 = .ok (.ireturn, 1) := by decide +kernel
theorem dL_changes_282 : decode cL_changes 282 = .ok (.aload_n 0, 1) := by decide +kernel
theorem dL_changes_283 : decode cL_changes 283 = .ok (.invokestatic 233, 3) := by decide +kernel
theorem dL_changes_286 : decode cL_changes 286 = .ok (.ifCond .lt 7, 3) := by decide +kernel
theorem dL_changes_289 : decode cL_changes 289 = .ok (.iconst 1, 1) := by decide +kernel
theorem dL_changes_290 : decode cL_changes 290 = .ok (.goto 4, 3) := by decide +kernel
theorem dL_changes_293 : decode cL_changes 293 = .ok (.iconst 0, 1) := by decide +kernel
theorem dL_changes_294 : decode cL_changes 294 = .ok (.ireturn, 1) := by decide +kernel
theorem dL_changes_295 : decode cL_changes 295 = .ok (.aload_n 0, 1) := by decide +kernel
theorem dL_changes_296 : decode cL_changes 296 = .ok (.iload_n 1, 1) := by decide +kernel
theorem dL_changes_297 : decode cL_changes 297 = .ok (.bipush 6, 2) := by decide +kernel
theorem dL_changes_299 : decode cL_changes 299 = .ok (.ishr, 1) := by decide +kernel
theorem dL_changes_300 : decode cL_changes 300 = .ok (.iconst 1, 1) := by decide +kernel
theorem dL_changes_301 : decode cL_changes 301 = .ok (.iand, 1) := by decide +kernel
theorem dL_changes_302 : decode cL_changes 302 = .ok (.ifCond .ne 54, 3) := by decide +kernel
theorem dL_changes_305 : decode cL_changes 305 = .ok (.new 235, 3) := by decide +kernel
theorem dL_changes_308 : decode cL_changes 308 = .ok (.dup, 1) := by decide +kernel
theorem dL_changes_309 : decode cL_changes 309 = .ok (.invokespecial 237, 3) := by decide +kernel
theorem dL_changes_312 : decode cL_changes 312 = .ok (.ldc 238, 2) := by decide +kernel
theorem dL_changes_314 : decode cL_changes 314 = .ok (.invokevirtual 240, 3) := by decide +kernel
theorem dL_changes_317 : decode cL_changes 317 = .ok (.sipush 162, 3) := by decide +kernel
theorem dL_changes_320 : decode cL_changes 320 = .ok (.iload_n 1, 1) := by decide +kernel
theorem dL_changes_321 : decode cL_changes 321 = .ok (.iconst 4, 1) := by decide +kernel
theorem dL_changes_322 : decode cL_changes 322 = .ok (.ishr, 1) := by decide +kernel
theorem dL_changes_323 : decode cL_changes 323 = .ok (.bipush 8, 2) := by decide +kernel
theorem dL_changes_325 : decode cL_changes 325 = .ok (.invokestatic 163, 3) := by decide +kernel
theorem dL_changes_328 : decode cL_changes 328 = .ok (.imul, 1) := by decide +kernel
theorem dL_changes_329 : decode cL_changes 329 = .ok (.bipush 18, 2) := by decide +kernel
theorem dL_changes_331 : decode cL_changes 331 = .ok (.iload_n 1, 1) := by decide +kernel
theorem dL_changes_332 : decode cL_changes 332 = .ok (.bipush 7, 2) := by decide +kernel
theorem dL_changes_334 : decode cL_changes 334 = .ok (.ishr, 1) := by decide +kernel
theorem dL_changes_335 : decode cL_changes 335 = .ok (.bipush 8, 2) := by decide +kernel
theorem dL_changes_337 : decode cL_changes 337 = .ok (.invokestatic 163, 3) := by decide +kernel
theorem dL_changes_340 : decode cL_changes 340 = .ok (.imul, 1) := by decide +kernel
theorem dL_changes_341 : decode cL_changes 341 = .ok (.iadd, 1) := by decide +kernel
theorem dL_changes_342 : decode cL_changes 342 = .ok (.invokevirtual 243, 3) := by decide +kernel
theorem dL_changes_345 : decode cL_changes 345 = .ok (.ldc 246, 2) := by decide +kernel
theorem dL_changes_347 : decode cL_changes 347 = .ok (.invokevirtual 240, 3) := by decide +kernel
theorem dL_changes_350 : decode cL_changes 350 = .ok (.invokevirtual 248, 3) := by decide +kernel
theorem dL_changes_353 : decode cL_changes 353 = .ok (.goto 33, 3) := by decide +kernel
theorem dL_changes_356 : decode cL_changes 356 = .ok (.new 235, 3) := by decide +kernel
theorem dL_changes_359 : decode cL_changes 359 = .ok (.dup, 1) := by decide +kernel
theorem dL_changes_360 : decode cL_changes 360 = .ok (.invokespecial 237, 3) := by decide +kernel
theorem dL_changes_363 : decode cL_changes 363 = .ok (.ldc 252, 2) := by decide +kernel
theorem dL_changes_365 : decode cL_changes 365 = .ok (.invokevirtual 240, 3) := by decide +kernel
theorem dL_changes_368 : decode cL_changes 368 = .ok (.iload_n 1, 1) := by decide +kernel
theorem dL_changes_369 : decode cL_changes 369 = .ok (.iconst 4, 1) := by decide +kernel
theorem dL_changes_370 : decode cL_changes 370 = .ok (.ishr, 1) := by decide +kernel
theorem dL_changes_371 : decode cL_changes 371 = .ok (.iconst 3, 1) := by decide +kernel
theorem dL_changes_372 : decode cL_changes 372 = .ok (.invokestatic 163, 3) := by decide +kernel
theorem dL_changes_375 : decode cL_changes 375 = .ok (.invokevirtual 243, 3) := by decide +kernel
theorem dL_changes_378 : decode cL_changes 378 = .ok (.ldc 254, 2) := by decide +kernel
theorem dL_changes_380 : decode cL_changes 380 = .ok (.invokevirtual 240, 3) := by decide +kernel
theorem dL_changes_383 : decode cL_changes 383 = .ok (.invokevirtual 248, 3) := by decide +kernel
theorem dL_changes_386 : decode cL_changes 386 = .ok (.invokestatic 256, 3) := by decide +kernel
theorem dL_changes_389 : decode cL_changes 389 = .ok (.ifCond .lt 7, 3) := by decide +kernel
theorem dL_changes_392 : decode cL_changes 392 = .ok (.iconst 1, 1) := by decide +kernel
theorem dL_changes_393 : decode cL_changes 393 = .ok (.goto 4, 3) := by decide +kernel
theorem dL_changes_396 : decode cL_changes 396 = .ok (.iconst 0, 1) := by decide +kernel
theorem dL_changes_397 : decode cL_changes 397 = .ok (.ireturn, 1) := by decide +kernel
theorem dL_changes_398 : decode cL_changes 398 = .ok (.aload_n 0, 1) := by decide +kernel
theorem dL_changes_399 : decode cL_changes 399 = .ok (.iload_n 2, 1) := by decide +kernel
theorem dL_changes_400 : decode cL_changes 400 = .ok (.iload_n 3, 1) := by decide +kernel
theorem dL_changes_401 : decode cL_changes 401 = .ok (.invokestatic 260, 3) := by decide +kernel
theorem dL_changes_404 : decode cL_changes 404 = .ok (.ifCond .lt 7, 3) := by decide +kernel
theorem dL_changes_407 : decode cL_changes 407 = .ok (.iconst 1, 1) := by decide +kernel
theorem dL_changes_408 : decode cL_changes 408 = .ok (.goto 4, 3) := by decide +kernel
theorem dL_changes_411 : decode cL_changes 411 = .ok (.iconst 0, 1) := by decide +kernel
theorem dL_changes_412 : decode cL_changes 412 = .ok (.ireturn, 1) := by decide +kernel
theorem dL_refused_0 : decode cL_refused 0 = .ok (.aload_n 0, 1) := by decide +kernel
theorem dL_refused_1 : decode cL_refused 1 = .ok (.invokestatic 262, 3) := by decide +kernel
theorem dL_refused_4 : decode cL_refused 4 = .ok (.lstore_n 1, 1) := by decide +kernel
theorem dL_refused_5 : decode cL_refused 5 = .ok (.aload_n 0, 1) := by decide +kernel
theorem dL_refused_6 : decode cL_refused 6 = .ok (.iconst 0, 1) := by decide +kernel
theorem dL_refused_7 : decode cL_refused 7 = .ok (.invokestatic 196, 3) := by decide +kernel
theorem dL_refused_10 : decode cL_refused 10 = .ok (.istore_n 3, 1) := by decide +kernel
theorem dL_refused_11 : decode cL_refused 11 = .ok (.aload_n 0, 1) := by decide +kernel
theorem dL_refused_12 : decode cL_refused 12 = .ok (.iconst 3, 1) := by decide +kernel
theorem dL_refused_13 : decode cL_refused 13 = .ok (.invokestatic 196, 3) := by decide +kernel
theorem dL_refused_16 : decode cL_refused 16 = .ok (.istore 4, 2) := by decide +kernel
theorem dL_refused_18 : decode cL_refused 18 = .ok (.aload_n 0, 1) := by decide +kernel
theorem dL_refused_19 : decode cL_refused 19 = .ok (.iload_n 3, 1) := by decide +kernel
theorem dL_refused_20 : decode cL_refused 20 = .ok (.bipush 9, 2) := by decide +kernel
theorem dL_refused_22 : decode cL_refused 22 = .ok (.invokestatic 168, 3) := by decide +kernel
theorem dL_refused_25 : decode cL_refused 25 = .ok (.sipush (-1001), 3) := by decide +kernel
theorem dL_refused_28 : decode cL_refused 28 = .ok (.if_icmp .ne 391, 3) := by decide +kernel
theorem dL_refused_31 : decode cL_refused 31 = .ok (.aload_n 0, 1) := by decide +kernel
theorem dL_refused_32 : decode cL_refused 32 = .ok (.iconst 3, 1) := by decide +kernel
theorem dL_refused_33 : decode cL_refused 33 = .ok (.iload_n 3, 1) := by decide +kernel
theorem dL_refused_34 : decode cL_refused 34 = .ok (.iconst 0, 1) := by decide +kernel
theorem dL_refused_35 : decode cL_refused 35 = .ok (.invokestatic 266, 3) := by decide +kernel
theorem dL_refused_38 : decode cL_refused 38 = .ok (.ifCond .eq 381, 3) := by decide +kernel
theorem dL_refused_41 : decode cL_refused 41 = .ok (.aload_n 0, 1) := by decide +kernel
theorem dL_refused_42 : decode cL_refused 42 = .ok (.iconst 0, 1) := by decide +kernel
theorem dL_refused_43 : decode cL_refused 43 = .ok (.iconst (-1), 1) := by decide +kernel
theorem dL_refused_44 : decode cL_refused 44 = .ok (.invokestatic 168, 3) := by decide +kernel
theorem dL_refused_47 : decode cL_refused 47 = .ok (.sipush (-1001), 3) := by decide +kernel
theorem dL_refused_50 : decode cL_refused 50 = .ok (.if_icmp .ne 369, 3) := by decide +kernel
theorem dL_refused_53 : decode cL_refused 53 = .ok (.aload_n 0, 1) := by decide +kernel
theorem dL_refused_54 : decode cL_refused 54 = .ok (.iconst 3, 1) := by decide +kernel
theorem dL_refused_55 : decode cL_refused 55 = .ok (.iconst (-1), 1) := by decide +kernel
theorem dL_refused_56 : decode cL_refused 56 = .ok (.iconst 0, 1) := by decide +kernel
theorem dL_refused_57 : decode cL_refused 57 = .ok (.invokestatic 266, 3) := by decide +kernel
theorem dL_refused_60 : decode cL_refused 60 = .ok (.ifCond .eq 359, 3) := by decide +kernel
theorem dL_refused_63 : decode cL_refused 63 = .ok (.aload_n 0, 1) := by decide +kernel
theorem dL_refused_64 : decode cL_refused 64 = .ok (.iconst 2, 1) := by decide +kernel
theorem dL_refused_65 : decode cL_refused 65 = .ok (.iconst 2, 1) := by decide +kernel
theorem dL_refused_66 : decode cL_refused 66 = .ok (.invokestatic 168, 3) := by decide +kernel
theorem dL_refused_69 : decode cL_refused 69 = .ok (.sipush (-1001), 3) := by decide +kernel
theorem dL_refused_72 : decode cL_refused 72 = .ok (.if_icmp .ne 347, 3) := by decide +kernel
theorem dL_refused_75 : decode cL_refused 75 = .ok (.aload_n 0, 1) := by decide +kernel
theorem dL_refused_76 : decode cL_refused 76 = .ok (.iconst 4, 1) := by decide +kernel
theorem dL_refused_77 : decode cL_refused 77 = .ok (.iconst 2, 1) := by decide +kernel
theorem dL_refused_78 : decode cL_refused 78 = .ok (.iconst 0, 1) := by decide +kernel
theorem dL_refused_79 : decode cL_refused 79 = .ok (.invokestatic 266, 3) := by decide +kernel
theorem dL_refused_82 : decode cL_refused 82 = .ok (.ifCond .eq 337, 3) := by decide +kernel
theorem dL_refused_85 : decode cL_refused 85 = .ok (.aload_n 0, 1) := by decide +kernel
theorem dL_refused_86 : decode cL_refused 86 = .ok (.iconst 1, 1) := by decide +kernel
theorem dL_refused_87 : decode cL_refused 87 = .ok (.iconst 0, 1) := by decide +kernel
theorem dL_refused_88 : decode cL_refused 88 = .ok (.invokestatic 168, 3) := by decide +kernel
theorem dL_refused_91 : decode cL_refused 91 = .ok (.sipush (-1001), 3) := by decide +kernel
theorem dL_refused_94 : decode cL_refused 94 = .ok (.if_icmp .ne 325, 3) := by decide +kernel
theorem dL_refused_97 : decode cL_refused 97 = .ok (.aload_n 0, 1) := by decide +kernel
theorem dL_refused_98 : decode cL_refused 98 = .ok (.iconst 5, 1) := by decide +kernel
theorem dL_refused_99 : decode cL_refused 99 = .ok (.iconst 0, 1) := by decide +kernel
theorem dL_refused_100 : decode cL_refused 100 = .ok (.iconst 0, 1) := by decide +kernel
theorem dL_refused_101 : decode cL_refused 101 = .ok (.invokestatic 266, 3) := by decide +kernel
theorem dL_refused_104 : decode cL_refused 104 = .ok (.ifCond .eq 315, 3) := by decide +kernel
theorem dL_refused_107 : decode cL_refused 107 = .ok (.aload_n 0, 1) := by decide +kernel
theorem dL_refused_108 : decode cL_refused 108 = .ok (.iconst (-1), 1) := by decide +kernel
theorem dL_refused_109 : decode cL_refused 109 = .ok (.iconst 0, 1) := by decide +kernel
theorem dL_refused_110 : decode cL_refused 110 = .ok (.invokestatic 227, 3) := by decide +kernel
theorem dL_refused_113 : decode cL_refused 113 = .ok (.sipush (-1001), 3) := by decide +kernel
theorem dL_refused_116 : decode cL_refused 116 = .ok (.if_icmp .ne 303, 3) := by decide +kernel
theorem dL_refused_119 : decode cL_refused 119 = .ok (.aload_n 0, 1) := by decide +kernel
theorem dL_refused_120 : decode cL_refused 120 = .ok (.iconst 3, 1) := by decide +kernel
theorem dL_refused_121 : decode cL_refused 121 = .ok (.iconst (-1), 1) := by decide +kernel
theorem dL_refused_122 : decode cL_refused 122 = .ok (.iconst 0, 1) := by decide +kernel
theorem dL_refused_123 : decode cL_refused 123 = .ok (.invokestatic 266, 3) := by decide +kernel
theorem dL_refused_126 : decode cL_refused 126 = .ok (.ifCond .eq 293, 3) := by decide +kernel
theorem dL_refused_129 : decode cL_refused 129 = .ok (.aload_n 0, 1) := by decide +kernel
theorem dL_refused_130 : decode cL_refused 130 = .ok (.iconst 0, 1) := by decide +kernel
theorem dL_refused_131 : decode cL_refused 131 = .ok (.iload_n 3, 1) := by decide +kernel
theorem dL_refused_132 : decode cL_refused 132 = .ok (.invokestatic 227, 3) := by decide +kernel
theorem dL_refused_135 : decode cL_refused 135 = .ok (.sipush (-1001), 3) := by decide +kernel
theorem dL_refused_138 : decode cL_refused 138 = .ok (.if_icmp .ne 281, 3) := by decide +kernel
theorem dL_refused_141 : decode cL_refused 141 = .ok (.aload_n 0, 1) := by decide +kernel
theorem dL_refused_142 : decode cL_refused 142 = .ok (.iconst 3, 1) := by decide +kernel
theorem dL_refused_143 : decode cL_refused 143 = .ok (.iload_n 3, 1) := by decide +kernel
theorem dL_refused_144 : decode cL_refused 144 = .ok (.iconst 0, 1) := by decide +kernel
theorem dL_refused_145 : decode cL_refused 145 = .ok (.invokestatic 266, 3) := by decide +kernel
theorem dL_refused_148 : decode cL_refused 148 = .ok (.ifCond .eq 271, 3) := by decide +kernel
theorem dL_refused_151 : decode cL_refused 151 = .ok (.aload_n 0, 1) := by decide +kernel
theorem dL_refused_152 : decode cL_refused 152 = .ok (.iconst 1, 1) := by decide +kernel
theorem dL_refused_153 : decode cL_refused 153 = .ok (.iconst 1, 1) := by decide +kernel
theorem dL_refused_154 : decode cL_refused 154 = .ok (.invokestatic 227, 3) := by decide +kernel
theorem dL_refused_157 : decode cL_refused 157 = .ok (.sipush (-1001), 3) := by decide +kernel
theorem dL_refused_160 : decode cL_refused 160 = .ok (.if_icmp .ne 259, 3) := by decide +kernel
theorem dL_refused_163 : decode cL_refused 163 = .ok (.aload_n 0, 1) := by decide +kernel
theorem dL_refused_164 : decode cL_refused 164 = .ok (.bipush 6, 2) := by decide +kernel
theorem dL_refused_166 : decode cL_refused 166 = .ok (.iconst 1, 1) := by decide +kernel
theorem dL_refused_167 : decode cL_refused 167 = .ok (.iconst 0, 1) := by decide +kernel
theorem dL_refused_168 : decode cL_refused 168 = .ok (.invokestatic 266, 3) := by decide +kernel
theorem dL_refused_171 : decode cL_refused 171 = .ok (.ifCond .eq 248, 3) := by decide +kernel
theorem dL_refused_174 : decode cL_refused 174 = .ok (.aload_n 0, 1) := by decide +kernel
theorem dL_refused_175 : decode cL_refused 175 = .ok (.iload_n 3, 1) := by decide +kernel
theorem dL_refused_176 : decode cL_refused 176 = .ok (.iconst 1, 1) := by decide +kernel
theorem dL_refused_177 : decode cL_refused 177 = .ok (.invokestatic 171, 3) := by decide +kernel
theorem dL_refused_180 : decode cL_refused 180 = .ok (.sipush (-1001), 3) := by decide +kernel
theorem dL_refused_183 : decode cL_refused 183 = .ok (.if_icmp .ne 236, 3) := by decide +kernel
theorem dL_refused_186 : decode cL_refused 186 = .ok (.aload_n 0, 1) := by decide +kernel
theorem dL_refused_187 : decode cL_refused 187 = .ok (.iconst 3, 1) := by decide +kernel
theorem dL_refused_188 : decode cL_refused 188 = .ok (.iload_n 3, 1) := by decide +kernel
theorem dL_refused_189 : decode cL_refused 189 = .ok (.iconst 0, 1) := by decide +kernel
theorem dL_refused_190 : decode cL_refused 190 = .ok (.invokestatic 266, 3) := by decide +kernel
theorem dL_refused_193 : decode cL_refused 193 = .ok (.ifCond .eq 226, 3) := by decide +kernel
theorem dL_refused_196 : decode cL_refused 196 = .ok (.aload_n 0, 1) := by decide +kernel
theorem dL_refused_197 : decode cL_refused 197 = .ok (.iconst 0, 1) := by decide +kernel
theorem dL_refused_198 : decode cL_refused 198 = .ok (.aload_n 0, 1) := by decide +kernel
theorem dL_refused_199 : decode cL_refused 199 = .ok (.iconst 0, 1) := by decide +kernel
theorem dL_refused_200 : decode cL_refused 200 = .ok (.iconst 2, 1) := by decide +kernel
theorem dL_refused_201 : decode cL_refused 201 = .ok (.invokestatic 198, 3) := by decide +kernel
theorem dL_refused_204 : decode cL_refused 204 = .ok (.iconst 1, 1) := by decide +kernel
theorem dL_refused_205 : decode cL_refused 205 = .ok (.if_icmp .ne 7, 3) := by decide +kernel
theorem dL_refused_208 : decode cL_refused 208 = .ok (.iconst 1, 1) := by decide +kernel
theorem dL_refused_209 : decode cL_refused 209 = .ok (.goto 4, 3) := by decide +kernel
theorem dL_refused_212 : decode cL_refused 212 = .ok (.iconst 0, 1) := by decide +kernel
theorem dL_refused_213 : decode cL_refused 213 = .ok (.invokestatic 171, 3) := by decide +kernel
theorem dL_refused_216 : decode cL_refused 216 = .ok (.sipush (-1001), 3) := by decide +kernel
theorem dL_refused_219 : decode cL_refused 219 = .ok (.if_icmp .ne 200, 3) := by decide +kernel
theorem dL_refused_222 : decode cL_refused 222 = .ok (.aload_n 0, 1) := by decide +kernel
theorem dL_refused_223 : decode cL_refused 223 = .ok (.iconst 5, 1) := by decide +kernel
theorem dL_refused_224 : decode cL_refused 224 = .ok (.iconst 0, 1) := by decide +kernel
theorem dL_refused_225 : decode cL_refused 225 = .ok (.iconst 0, 1) := by decide +kernel
theorem dL_refused_226 : decode cL_refused 226 = .ok (.invokestatic 266, 3) := by decide +kernel
theorem dL_refused_229 : decode cL_refused 229 = .ok (.ifCond .eq 190, 3) := by decide +kernel
theorem dL_refused_232 : decode cL_refused 232 = .ok (.aload_n 0, 1) := by decide +kernel
theorem dL_refused_233 : decode cL_refused 233 = .ok (.iconst 0, 1) := by decide +kernel
theorem dL_refused_234 : decode cL_refused 234 = .ok (.invokestatic 174, 3) := by decide +kernel
theorem dL_refused_237 : decode cL_refused 237 = .ok (.sipush (-1001), 3) := by decide +kernel
theorem dL_refused_240 : decode cL_refused 240 = .ok (.if_icmp .ne 179, 3) := by decide +kernel
theorem dL_refused_243 : decode cL_refused 243 = .ok (.aload_n 0, 1) := by decide +kernel
theorem dL_refused_244 : decode cL_refused 244 = .ok (.iconst 1, 1) := by decide +kernel
theorem dL_refused_245 : decode cL_refused 245 = .ok (.iconst 0, 1) := by decide +kernel
theorem dL_refused_246 : decode cL_refused 246 = .ok (.iconst 0, 1) := by decide +kernel
theorem dL_refused_247 : decode cL_refused 247 = .ok (.invokestatic 266, 3) := by decide +kernel
theorem dL_refused_250 : decode cL_refused 250 = .ok (.ifCond .eq 169, 3) := by decide +kernel
theorem dL_refused_253 : decode cL_refused 253 = .ok (.aload_n 0, 1) := by decide +kernel
theorem dL_refused_254 : decode cL_refused 254 = .ok (.iconst 3, 1) := by decide +kernel
theorem dL_refused_255 : decode cL_refused 255 = .ok (.invokestatic 174, 3) := by decide +kernel
theorem dL_refused_258 : decode cL_refused 258 = .ok (.sipush (-1001), 3) := by decide +kernel
theorem dL_refused_261 : decode cL_refused 261 = .ok (.if_icmp .ne 158, 3) := by decide +kernel
theorem dL_refused_264 : decode cL_refused 264 = .ok (.aload_n 0, 1) := by decide +kernel
theorem dL_refused_265 : decode cL_refused 265 = .ok (.iconst 1, 1) := by decide +kernel
theorem dL_refused_266 : decode cL_refused 266 = .ok (.iconst 0, 1) := by decide +kernel
theorem dL_refused_267 : decode cL_refused 267 = .ok (.iconst 0, 1) := by decide +kernel
theorem dL_refused_268 : decode cL_refused 268 = .ok (.invokestatic 266, 3) := by decide +kernel
theorem dL_refused_271 : decode cL_refused 271 = .ok (.ifCond .eq 148, 3) := by decide +kernel
theorem dL_refused_274 : decode cL_refused 274 = .ok (.aload_n 0, 1) := by decide +kernel
theorem dL_refused_275 : decode cL_refused 275 = .ok (.iload 4, 2) := by decide +kernel
theorem dL_refused_277 : decode cL_refused 277 = .ok (.invokestatic 174, 3) := by decide +kernel
theorem dL_refused_280 : decode cL_refused 280 = .ok (.sipush (-1001), 3) := by decide +kernel
theorem dL_refused_283 : decode cL_refused 283 = .ok (.if_icmp .ne 136, 3) := by decide +kernel
theorem dL_refused_286 : decode cL_refused 286 = .ok (.aload_n 0, 1) := by decide +kernel
theorem dL_refused_287 : decode cL_refused 287 = .ok (.iconst 5, 1) := by decide +kernel
theorem dL_refused_288 : decode cL_refused 288 = .ok (.iconst 0, 1) := by decide +kernel
theorem dL_refused_289 : decode cL_refused 289 = .ok (.iconst 0, 1) := by decide +kernel
theorem dL_refused_290 : decode cL_refused 290 = .ok (.invokestatic 266, 3) := by decide +kernel
theorem dL_refused_293 : decode cL_refused 293 = .ok (.ifCond .eq 126, 3) := by decide +kernel
theorem dL_refused_296 : decode cL_refused 296 = .ok (.aload_n 0, 1) := by decide +kernel
theorem dL_refused_297 : decode cL_refused 297 = .ok (.iconst 0, 1) := by decide +kernel
theorem dL_refused_298 : decode cL_refused 298 = .ok (.invokestatic 229, 3) := by decide +kernel
theorem dL_refused_301 : decode cL_refused 301 = .ok (.sipush (-1001), 3) := by decide +kernel
theorem dL_refused_304 : decode cL_refused 304 = .ok (.if_icmp .ne 115, 3) := by decide +kernel
theorem dL_refused_307 : decode cL_refused 307 = .ok (.aload_n 0, 1) := by decide +kernel
theorem dL_refused_308 : decode cL_refused 308 = .ok (.bipush 7, 2) := by decide +kernel
theorem dL_refused_310 : decode cL_refused 310 = .ok (.iconst 0, 1) := by decide +kernel
theorem dL_refused_311 : decode cL_refused 311 = .ok (.iconst 0, 1) := by decide +kernel
theorem dL_refused_312 : decode cL_refused 312 = .ok (.invokestatic 266, 3) := by decide +kernel
theorem dL_refused_315 : decode cL_refused 315 = .ok (.ifCond .eq 104, 3) := by decide +kernel
theorem dL_refused_318 : decode cL_refused 318 = .ok (.aload_n 0, 1) := by decide +kernel
theorem dL_refused_319 : decode cL_refused 319 = .ok (.bipush (-5), 2) := by decide +kernel
theorem dL_refused_321 : decode cL_refused 321 = .ok (.invokestatic 229, 3) := by decide +kernel
theorem dL_refused_324 : decode cL_refused 324 = .ok (.sipush (-1001), 3) := by decide +kernel
theorem dL_refused_327 : decode cL_refused 327 = .ok (.if_icmp .ne 92, 3) := by decide +kernel
theorem dL_refused_330 : decode cL_refused 330 = .ok (.aload_n 0, 1) := by decide +kernel
theorem dL_refused_331 : decode cL_refused 331 = .ok (.bipush 7, 2) := by decide +kernel
theorem dL_refused_333 : decode cL_refused 333 = .ok (.bipush (-5), 2) := by decide +kernel
theorem dL_refused_335 : decode cL_refused 335 = .ok (.iconst 0, 1) := by decide +kernel
theorem dL_refused_336 : decode cL_refused 336 = .ok (.invokestatic 266, 3) := by decide +kernel
theorem dL_refused_339 : decode cL_refused 339 = .ok (.ifCond .eq 80, 3) := by decide +kernel
theorem dL_refused_342 : decode cL_refused 342 = .ok (.aload_n 0, 1) := by decide +kernel
theorem dL_refused_343 : decode cL_refused 343 = .ok (.sipush 162, 3) := by decide +kernel
theorem dL_refused_346 : decode cL_refused 346 = .ok (.iload_n 3, 1) := by decide +kernel
theorem dL_refused_347 : decode cL_refused 347 = .ok (.imul, 1) := by decide +kernel
theorem dL_refused_348 : decode cL_refused 348 = .ok (.invokestatic 229, 3) := by decide +kernel
theorem dL_refused_351 : decode cL_refused 351 = .ok (.sipush (-1001), 3) := by decide +kernel
theorem dL_refused_354 : decode cL_refused 354 = .ok (.if_icmp .ne 65, 3) := by decide +kernel
theorem dL_refused_357 : decode cL_refused 357 = .ok (.aload_n 0, 1) := by decide +kernel
theorem dL_refused_358 : decode cL_refused 358 = .ok (.bipush 7, 2) := by decide +kernel
theorem dL_refused_360 : decode cL_refused 360 = .ok (.sipush 162, 3) := by decide +kernel
theorem dL_refused_363 : decode cL_refused 363 = .ok (.iload_n 3, 1) := by decide +kernel
theorem dL_refused_364 : decode cL_refused 364 = .ok (.imul, 1) := by decide +kernel
theorem dL_refused_365 : decode cL_refused 365 = .ok (.iconst 0, 1) := by decide +kernel
theorem dL_refused_366 : decode cL_refused 366 = .ok (.invokestatic 266, 3) := by decide +kernel
theorem dL_refused_369 : decode cL_refused 369 = .ok (.ifCond .eq 50, 3) := by decide +kernel
theorem dL_refused_372 : decode cL_refused 372 = .ok (.aload_n 0, 1) := by decide +kernel
theorem dL_refused_373 : decode cL_refused 373 = .ok (.iconst 0, 1) := by decide +kernel
theorem dL_refused_374 : decode cL_refused 374 = .ok (.invokestatic 231, 3) := by decide +kernel
theorem dL_refused_377 : decode cL_refused 377 = .ok (.sipush (-1001), 3) := by decide +kernel
theorem dL_refused_380 : decode cL_refused 380 = .ok (.if_icmp .ne 39, 3) := by decide +kernel
theorem dL_refused_383 : decode cL_refused 383 = .ok (.aload_n 0, 1) := by decide +kernel
theorem dL_refused_384 : decode cL_refused 384 = .ok (.iconst 1, 1) := by decide +kernel
theorem dL_refused_385 : decode cL_refused 385 = .ok (.iconst 0, 1) := by decide +kernel
theorem dL_refused_386 : decode cL_refused 386 = .ok (.iconst 0, 1) := by decide +kernel
theorem dL_refused_387 : decode cL_refused 387 = .ok (.invokestatic 266, 3) := by decide +kernel
theorem dL_refused_390 : decode cL_refused 390 = .ok (.ifCond .eq 29, 3) := by decide +kernel
theorem dL_refused_393 : decode cL_refused 393 = .ok (.aload_n 0, 1) := by decide +kernel
theorem dL_refused_394 : decode cL_refused 394 = .ok (.bipush 41, 2) := by decide +kernel
theorem dL_refused_396 : decode cL_refused 396 = .ok (.invokestatic 231, 3) := by decide +kernel
theorem dL_refused_399 : decode cL_refused 399 = .ok (.sipush (-1001), 3) := by decide +kernel
theorem dL_refused_402 : decode cL_refused 402 = .ok (.if_icmp .ne 17, 3) := by decide +kernel
theorem dL_refused_405 : decode cL_refused 405 = .ok (.aload_n 0, 1) := by decide +kernel
theorem dL_refused_406 : decode cL_refused 406 = .ok (.iconst 1, 1) := by decide +kernel
theorem dL_refused_407 : decode cL_refused 407 = .ok (.iconst 0, 1) := by decide +kernel
theorem dL_refused_408 : decode cL_refused 408 = .ok (.iconst 0, 1) := by decide +kernel
theorem dL_refused_409 : decode cL_refused 409 = .ok (.invokestatic 266, 3) := by decide +kernel
theorem dL_refused_412 : decode cL_refused 412 = .ok (.ifCond .eq 7, 3) := by decide +kernel
theorem dL_refused_415 : decode cL_refused 415 = .ok (.iconst 1, 1) := by decide +kernel
theorem dL_refused_416 : decode cL_refused 416 = .ok (.goto 4, 3) := by decide +kernel
theorem dL_refused_419 : decode cL_refused 419 = .ok (.iconst 0, 1) := by decide +kernel
theorem dL_refused_420 : decode cL_refused 420 = .ok (.istore 5, 2) := by decide +kernel
theorem dL_refused_422 : decode cL_refused 422 = .ok (.aload_n 0, 1) := by decide +kernel
theorem dL_refused_423 : decode cL_refused 423 = .ok (.invokestatic 225, 3) := by decide +kernel
theorem dL_refused_426 : decode cL_refused 426 = .ok (.ifCond .ge 81, 3) := by decide +kernel
theorem dL_refused_429 : decode cL_refused 429 = .ok (.iload 5, 2) := by decide +kernel
theorem dL_refused_431 : decode cL_refused 431 = .ok (.ifCond .eq 73, 3) := by decide +kernel
theorem dL_refused_434 : decode cL_refused 434 = .ok (.aload_n 0, 1) := by decide +kernel
theorem dL_refused_435 : decode cL_refused 435 = .ok (.iconst 0, 1) := by decide +kernel
theorem dL_refused_436 : decode cL_refused 436 = .ok (.iconst 1, 1) := by decide +kernel
theorem dL_refused_437 : decode cL_refused 437 = .ok (.invokestatic 260, 3) := by decide +kernel
theorem dL_refused_440 : decode cL_refused 440 = .ok (.sipush (-1001), 3) := by decide +kernel
theorem dL_refused_443 : decode cL_refused 443 = .ok (.if_icmp .ne 61, 3) := by decide +kernel
theorem dL_refused_446 : decode cL_refused 446 = .ok (.aload_n 0, 1) := by decide +kernel
theorem dL_refused_447 : decode cL_refused 447 = .ok (.bipush 8, 2) := by decide +kernel
theorem dL_refused_449 : decode cL_refused 449 = .ok (.iconst 0, 1) := by decide +kernel
theorem dL_refused_450 : decode cL_refused 450 = .ok (.iconst 0, 1) := by decide +kernel
theorem dL_refused_451 : decode cL_refused 451 = .ok (.invokestatic 266, 3) := by decide +kernel
theorem dL_refused_454 : decode cL_refused 454 = .ok (.ifCond .eq 50, 3) := by decide +kernel
theorem dL_refused_457 : decode cL_refused 457 = .ok (.aload_n 0, 1) := by decide +kernel
theorem dL_refused_458 : decode cL_refused 458 = .ok (.iconst 1, 1) := by decide +kernel
theorem dL_refused_459 : decode cL_refused 459 = .ok (.invokestatic 231, 3) := by decide +kernel
theorem dL_refused_462 : decode cL_refused 462 = .ok (.sipush (-1001), 3) := by decide +kernel
theorem dL_refused_465 : decode cL_refused 465 = .ok (.if_icmp .ne 39, 3) := by decide +kernel
theorem dL_refused_468 : decode cL_refused 468 = .ok (.aload_n 0, 1) := by decide +kernel
theorem dL_refused_469 : decode cL_refused 469 = .ok (.bipush 8, 2) := by decide +kernel
theorem dL_refused_471 : decode cL_refused 471 = .ok (.iconst 0, 1) := by decide +kernel
theorem dL_refused_472 : decode cL_refused 472 = .ok (.iconst 0, 1) := by decide +kernel
theorem dL_refused_473 : decode cL_refused 473 = .ok (.invokestatic 266, 3) := by decide +kernel
theorem dL_refused_476 : decode cL_refused 476 = .ok (.ifCond .eq 28, 3) := by decide +kernel
theorem dL_refused_479 : decode cL_refused 479 = .ok (.aload_n 0, 1) := by decide +kernel
theorem dL_refused_480 : decode cL_refused 480 = .ok (.invokestatic 233, 3) := by decide +kernel
theorem dL_refused_483 : decode cL_refused 483 = .ok (.sipush (-1001), 3) := by decide +kernel
theorem dL_refused_486 : decode cL_refused 486 = .ok (.if_icmp .ne 18, 3) := by decide +kernel
theorem dL_refused_489 : decode cL_refused 489 = .ok (.aload_n 0, 1) := by decide +kernel
theorem dL_refused_490 : decode cL_refused 490 = .ok (.bipush 8, 2) := by decide +kernel
theorem dL_refused_492 : decode cL_refused 492 = .ok (.iconst 0, 1) := by decide +kernel
theorem dL_refused_493 : decode cL_refused 493 = .ok (.iconst 0, 1) := by decide +kernel
theorem dL_refused_494 : decode cL_refused 494 = .ok (.invokestatic 266, 3) := by decide +kernel
theorem dL_refused_497 : decode cL_refused 497 = .ok (.ifCond .eq 7, 3) := by decide +kernel
theorem dL_refused_500 : decode cL_refused 500 = .ok (.iconst 1, 1) := by decide +kernel
theorem dL_refused_501 : decode cL_refused 501 = .ok (.goto 4, 3) := by decide +kernel
theorem dL_refused_504 : decode cL_refused 504 = .ok (.iconst 0, 1) := by decide +kernel
theorem dL_refused_505 : decode cL_refused 505 = .ok (.istore 5, 2) := by decide +kernel
theorem dL_refused_507 : decode cL_refused 507 = .ok (.iload 5, 2) := by decide +kernel
theorem dL_refused_509 : decode cL_refused 509 = .ok (.ifCond .eq 420, 3) := by decide +kernel
theorem dL_refused_512 : decode cL_refused 512 = .ok (.aload_n 0, 1) := by decide +kernel
theorem dL_refused_513 : decode cL_refused 513 = .ok (.bipush 41, 2) := by decide +kernel
theorem dL_refused_515 : decode cL_refused 515 = .ok (.invokestatic 231, 3) := by decide +kernel
theorem dL_refused_518 : decode cL_refused 518 = .ok (.sipush (-1001), 3) := by decide +kernel
theorem dL_refused_521 : decode cL_refused 521 = .ok (.if_icmp .ne 408, 3) := by decide +kernel
theorem dL_refused_524 : decode cL_refused 524 = .ok (.aload_n 0, 1) := by decide +kernel
theorem dL_refused_525 : decode cL_refused 525 = .ok (.iload_n 3, 1) := by decide +kernel
theorem dL_refused_526 : decode cL_refused 526 = .ok (.iconst 0, 1) := by decide +kernel
theorem dL_refused_527 : decode cL_refused 527 = .ok (.iconst (-1), 1) := by decide +kernel
theorem dL_refused_528 : decode cL_refused 528 = .ok (.iconst 1, 1) := by decide +kernel
theorem dL_refused_529 : decode cL_refused 529 = .ok (.invokestatic 270, 3) := by decide +kernel
theorem dL_refused_532 : decode cL_refused 532 = .ok (.sipush (-1001), 3) := by decide +kernel
theorem dL_refused_535 : decode cL_refused 535 = .ok (.if_icmp .ne 394, 3) := by decide +kernel
theorem dL_refused_538 : decode cL_refused 538 = .ok (.aload_n 0, 1) := by decide +kernel
theorem dL_refused_539 : decode cL_refused 539 = .ok (.iconst 0, 1) := by decide +kernel
theorem dL_refused_540 : decode cL_refused 540 = .ok (.iconst 0, 1) := by decide +kernel
theorem dL_refused_541 : decode cL_refused 541 = .ok (.iconst (-1), 1) := by decide +kernel
theorem dL_refused_542 : decode cL_refused 542 = .ok (.iconst 1, 1) := by decide +kernel
theorem dL_refused_543 : decode cL_refused 543 = .ok (.invokestatic 270, 3) := by decide +kernel
theorem dL_refused_546 : decode cL_refused 546 = .ok (.sipush (-1001), 3) := by decide +kernel
theorem dL_refused_549 : decode cL_refused 549 = .ok (.if_icmp .ne 380, 3) := by decide +kernel
theorem dL_refused_552 : decode cL_refused 552 = .ok (.aload_n 0, 1) := by decide +kernel
theorem dL_refused_553 : decode cL_refused 553 = .ok (.iconst 0, 1) := by decide +kernel
theorem dL_refused_554 : decode cL_refused 554 = .ok (.iconst 1, 1) := by decide +kernel
theorem dL_refused_555 : decode cL_refused 555 = .ok (.iload 4, 2) := by decide +kernel
theorem dL_refused_557 : decode cL_refused 557 = .ok (.iconst 1, 1) := by decide +kernel
theorem dL_refused_558 : decode cL_refused 558 = .ok (.if_icmp .ne 7, 3) := by decide +kernel
theorem dL_refused_561 : decode cL_refused 561 = .ok (.iconst 2, 1) := by decide +kernel
theorem dL_refused_562 : decode cL_refused 562 = .ok (.goto 4, 3) := by decide +kernel
theorem dL_refused_565 : decode cL_refused 565 = .ok (.iconst (-1), 1) := by decide +kernel
theorem dL_refused_566 : decode cL_refused 566 = .ok (.iconst 1, 1) := by decide +kernel
theorem dL_refused_567 : decode cL_refused 567 = .ok (.invokestatic 270, 3) := by decide +kernel
theorem dL_refused_570 : decode cL_refused 570 = .ok (.sipush (-1001), 3) := by decide +kernel
theorem dL_refused_573 : decode cL_refused 573 = .ok (.if_icmp .ne 356, 3) := by decide +kernel
theorem dL_refused_576 : decode cL_refused 576 = .ok (.aload_n 0, 1) := by decide +kernel
theorem dL_refused_577 : decode cL_refused 577 = .ok (.iconst 0, 1) := by decide +kernel
theorem dL_refused_578 : decode cL_refused 578 = .ok (.bipush 7, 2) := by decide +kernel
theorem dL_refused_580 : decode cL_refused 580 = .ok (.invokestatic 204, 3) := by decide +kernel
theorem dL_refused_583 : decode cL_refused 583 = .ok (.sipush (-1001), 3) := by decide +kernel
theorem dL_refused_586 : decode cL_refused 586 = .ok (.if_icmp .ne 343, 3) := by decide +kernel
theorem dL_refused_589 : decode cL_refused 589 = .ok (.aload_n 0, 1) := by decide +kernel
theorem dL_refused_590 : decode cL_refused 590 = .ok (.iconst 0, 1) := by decide +kernel
theorem dL_refused_591 : decode cL_refused 591 = .ok (.iconst (-1), 1) := by decide +kernel
theorem dL_refused_592 : decode cL_refused 592 = .ok (.invokestatic 204, 3) := by decide +kernel
theorem dL_refused_595 : decode cL_refused 595 = .ok (.sipush (-1001), 3) := by decide +kernel
theorem dL_refused_598 : decode cL_refused 598 = .ok (.if_icmp .ne 331, 3) := by decide +kernel
theorem dL_refused_601 : decode cL_refused 601 = .ok (.aload_n 0, 1) := by decide +kernel
theorem dL_refused_602 : decode cL_refused 602 = .ok (.iconst 0, 1) := by decide +kernel
theorem dL_refused_603 : decode cL_refused 603 = .ok (.iconst 0, 1) := by decide +kernel
theorem dL_refused_604 : decode cL_refused 604 = .ok (.invokestatic 204, 3) := by decide +kernel
theorem dL_refused_607 : decode cL_refused 607 = .ok (.sipush (-1002), 3) := by decide +kernel
theorem dL_refused_610 : decode cL_refused 610 = .ok (.if_icmp .ne 319, 3) := by decide +kernel
theorem dL_refused_613 : decode cL_refused 613 = .ok (.aload_n 0, 1) := by decide +kernel
theorem dL_refused_614 : decode cL_refused 614 = .ok (.iconst (-1), 1) := by decide +kernel
theorem dL_refused_615 : decode cL_refused 615 = .ok (.iconst 0, 1) := by decide +kernel
theorem dL_refused_616 : decode cL_refused 616 = .ok (.invokestatic 204, 3) := by decide +kernel
theorem dL_refused_619 : decode cL_refused 619 = .ok (.sipush (-1002), 3) := by decide +kernel
theorem dL_refused_622 : decode cL_refused 622 = .ok (.if_icmp .ne 307, 3) := by decide +kernel
theorem dL_refused_625 : decode cL_refused 625 = .ok (.aload_n 0, 1) := by decide +kernel
theorem dL_refused_626 : decode cL_refused 626 = .ok (.iconst 0, 1) := by decide +kernel
theorem dL_refused_627 : decode cL_refused 627 = .ok (.invokestatic 206, 3) := by decide +kernel
theorem dL_refused_630 : decode cL_refused 630 = .ok (.sipush (-1001), 3) := by decide +kernel
theorem dL_refused_633 : decode cL_refused 633 = .ok (.if_icmp .ne 296, 3) := by decide +kernel
theorem dL_refused_636 : decode cL_refused 636 = .ok (.aload_n 0, 1) := by decide +kernel
theorem dL_refused_637 : decode cL_refused 637 = .ok (.sipush 5000, 3) := by decide +kernel
theorem dL_refused_640 : decode cL_refused 640 = .ok (.invokestatic 206, 3) := by decide +kernel
theorem dL_refused_643 : decode cL_refused 643 = .ok (.sipush (-1001), 3) := by decide +kernel
theorem dL_refused_646 : decode cL_refused 646 = .ok (.if_icmp .ne 283, 3) := by decide +kernel
theorem dL_refused_649 : decode cL_refused 649 = .ok (.aload_n 0, 1) := by decide +kernel
theorem dL_refused_650 : decode cL_refused 650 = .ok (.iconst 0, 1) := by decide +kernel
theorem dL_refused_651 : decode cL_refused 651 = .ok (.iconst 0, 1) := by decide +kernel
theorem dL_refused_652 : decode cL_refused 652 = .ok (.iconst 1, 1) := by decide +kernel
theorem dL_refused_653 : decode cL_refused 653 = .ok (.invokestatic 215, 3) := by decide +kernel
theorem dL_refused_656 : decode cL_refused 656 = .ok (.sipush (-1001), 3) := by decide +kernel
theorem dL_refused_659 : decode cL_refused 659 = .ok (.if_icmp .ne 270, 3) := by decide +kernel
theorem dL_refused_662 : decode cL_refused 662 = .ok (.aload_n 0, 1) := by decide +kernel
theorem dL_refused_663 : decode cL_refused 663 = .ok (.iconst (-1), 1) := by decide +kernel
theorem dL_refused_664 : decode cL_refused 664 = .ok (.invokestatic 208, 3) := by decide +kernel
theorem dL_refused_667 : decode cL_refused 667 = .ok (.sipush (-1001), 3) := by decide +kernel
theorem dL_refused_670 : decode cL_refused 670 = .ok (.if_icmp .ne 259, 3) := by decide +kernel
theorem dL_refused_673 : decode cL_refused 673 = .ok (.aload_n 0, 1) := by decide +kernel
theorem dL_refused_674 : decode cL_refused 674 = .ok (.iconst 0, 1) := by decide +kernel
theorem dL_refused_675 : decode cL_refused 675 = .ok (.iconst 0, 1) := by decide +kernel
theorem dL_refused_676 : decode cL_refused 676 = .ok (.iconst 1, 1) := by decide +kernel
theorem dL_refused_677 : decode cL_refused 677 = .ok (.invokestatic 273, 3) := by decide +kernel
theorem dL_refused_680 : decode cL_refused 680 = .ok (.sipush (-1001), 3) := by decide +kernel
theorem dL_refused_683 : decode cL_refused 683 = .ok (.if_icmp .ne 246, 3) := by decide +kernel
theorem dL_refused_686 : decode cL_refused 686 = .ok (.aload_n 0, 1) := by decide +kernel
theorem dL_refused_687 : decode cL_refused 687 = .ok (.sipush 1296, 3) := by decide +kernel
theorem dL_refused_690 : decode cL_refused 690 = .ok (.invokestatic 210, 3) := by decide +kernel
theorem dL_refused_693 : decode cL_refused 693 = .ok (.sipush (-1001), 3) := by decide +kernel
theorem dL_refused_696 : decode cL_refused 696 = .ok (.if_icmp .ne 233, 3) := by decide +kernel
theorem dL_refused_699 : decode cL_refused 699 = .ok (.aload_n 0, 1) := by decide +kernel
theorem dL_refused_700 : decode cL_refused 700 = .ok (.iconst (-1), 1) := by decide +kernel
theorem dL_refused_701 : decode cL_refused 701 = .ok (.iconst 1, 1) := by decide +kernel
theorem dL_refused_702 : decode cL_refused 702 = .ok (.invokestatic 202, 3) := by decide +kernel
theorem dL_refused_705 : decode cL_refused 705 = .ok (.sipush (-1001), 3) := by decide +kernel
theorem dL_refused_708 : decode cL_refused 708 = .ok (.if_icmp .ne 221, 3) := by decide +kernel
theorem dL_refused_711 : decode cL_refused 711 = .ok (.aload_n 0, 1) := by decide +kernel
theorem dL_refused_712 : decode cL_refused 712 = .ok (.iconst 3, 1) := by decide +kernel
theorem dL_refused_713 : decode cL_refused 713 = .ok (.iconst 1, 1) := by decide +kernel
theorem dL_refused_714 : decode cL_refused 714 = .ok (.invokestatic 202, 3) := by decide +kernel
theorem dL_refused_717 : decode cL_refused 717 = .ok (.sipush (-1001), 3) := by decide +kernel
theorem dL_refused_720 : decode cL_refused 720 = .ok (.if_icmp .ne 209, 3) := by decide +kernel
theorem dL_refused_723 : decode cL_refused 723 = .ok (.aload_n 0, 1) := by decide +kernel
theorem dL_refused_724 : decode cL_refused 724 = .ok (.iconst (-1), 1) := by decide +kernel
theorem dL_refused_725 : decode cL_refused 725 = .ok (.invokestatic 218, 3) := by decide +kernel
theorem dL_refused_728 : decode cL_refused 728 = .ok (.sipush (-1001), 3) := by decide +kernel
theorem dL_refused_731 : decode cL_refused 731 = .ok (.if_icmp .ne 198, 3) := by decide +kernel
theorem dL_refused_734 : decode cL_refused 734 = .ok (.aload_n 0, 1) := by decide +kernel
theorem dL_refused_735 : decode cL_refused 735 = .ok (.iload_n 3, 1) := by decide +kernel
theorem dL_refused_736 : decode cL_refused 736 = .ok (.iconst 0, 1) := by decide +kernel
theorem dL_refused_737 : decode cL_refused 737 = .ok (.invokestatic 223, 3) := by decide +kernel
theorem dL_refused_740 : decode cL_refused 740 = .ok (.sipush (-1001), 3) := by decide +kernel
theorem dL_refused_743 : decode cL_refused 743 = .ok (.if_icmp .ne 186, 3) := by decide +kernel
theorem dL_refused_746 : decode cL_refused 746 = .ok (.aload_n 0, 1) := by decide +kernel
theorem dL_refused_747 : decode cL_refused 747 = .ok (.iconst 0, 1) := by decide +kernel
theorem dL_refused_748 : decode cL_refused 748 = .ok (.iconst (-1), 1) := by decide +kernel
theorem dL_refused_749 : decode cL_refused 749 = .ok (.invokestatic 223, 3) := by decide +kernel
theorem dL_refused_752 : decode cL_refused 752 = .ok (.sipush (-1001), 3) := by decide +kernel
theorem dL_refused_755 : decode cL_refused 755 = .ok (.if_icmp .ne 174, 3) := by decide +kernel
theorem dL_refused_758 : decode cL_refused 758 = .ok (.aload_n 0, 1) := by decide +kernel
theorem dL_refused_759 : decode cL_refused 759 = .ok (.iconst 1, 1) := by decide +kernel
theorem dL_refused_760 : decode cL_refused 760 = .ok (.iconst 1, 1) := by decide +kernel
theorem dL_refused_761 : decode cL_refused 761 = .ok (.invokestatic 223, 3) := by decide +kernel
theorem dL_refused_764 : decode cL_refused 764 = .ok (.sipush (-1002), 3) := by decide +kernel
theorem dL_refused_767 : decode cL_refused 767 = .ok (.if_icmp .ne 162, 3) := by decide +kernel
theorem dL_refused_770 : decode cL_refused 770 = .ok (.aload_n 0, 1) := by decide +kernel
theorem dL_refused_771 : decode cL_refused 771 = .ok (.iconst 0, 1) := by decide +kernel
theorem dL_refused_772 : decode cL_refused 772 = .ok (.invokestatic 213, 3) := by decide +kernel
theorem dL_refused_775 : decode cL_refused 775 = .ok (.sipush (-1001), 3) := by decide +kernel
theorem dL_refused_778 : decode cL_refused 778 = .ok (.if_icmp .ne 151, 3) := by decide +kernel
theorem dL_refused_781 : decode cL_refused 781 = .ok (.aload_n 0, 1) := by decide +kernel
theorem dL_refused_782 : decode cL_refused 782 = .ok (.iload_n 3, 1) := by decide +kernel
theorem dL_refused_783 : decode cL_refused 783 = .ok (.bipush 9, 2) := by decide +kernel
theorem dL_refused_785 : decode cL_refused 785 = .ok (.invokestatic 198, 3) := by decide +kernel
theorem dL_refused_788 : decode cL_refused 788 = .ok (.sipush (-1001), 3) := by decide +kernel
theorem dL_refused_791 : decode cL_refused 791 = .ok (.if_icmp .ne 138, 3) := by decide +kernel
theorem dL_refused_794 : decode cL_refused 794 = .ok (.aload_n 0, 1) := by decide +kernel
theorem dL_refused_795 : decode cL_refused 795 = .ok (.iconst 0, 1) := by decide +kernel
theorem dL_refused_796 : decode cL_refused 796 = .ok (.iconst 4, 1) := by decide +kernel
theorem dL_refused_797 : decode cL_refused 797 = .ok (.invokestatic 198, 3) := by decide +kernel
theorem dL_refused_800 : decode cL_refused 800 = .ok (.sipush (-1002), 3) := by decide +kernel
theorem dL_refused_803 : decode cL_refused 803 = .ok (.if_icmp .ne 126, 3) := by decide +kernel
theorem dL_refused_806 : decode cL_refused 806 = .ok (.aload_n 0, 1) := by decide +kernel
theorem dL_refused_807 : decode cL_refused 807 = .ok (.iconst 0, 1) := by decide +kernel
theorem dL_refused_808 : decode cL_refused 808 = .ok (.iconst (-1), 1) := by decide +kernel
theorem dL_refused_809 : decode cL_refused 809 = .ok (.invokestatic 198, 3) := by decide +kernel
theorem dL_refused_812 : decode cL_refused 812 = .ok (.sipush (-1002), 3) := by decide +kernel
theorem dL_refused_815 : decode cL_refused 815 = .ok (.if_icmp .ne 114, 3) := by decide +kernel
theorem dL_refused_818 : decode cL_refused 818 = .ok (.aload_n 0, 1) := by decide +kernel
theorem dL_refused_819 : decode cL_refused 819 = .ok (.aload_n 0, 1) := by decide +kernel
theorem dL_refused_820 : decode cL_refused 820 = .ok (.iconst 1, 1) := by decide +kernel
theorem dL_refused_821 : decode cL_refused 821 = .ok (.invokestatic 196, 3) := by decide +kernel
theorem dL_refused_824 : decode cL_refused 824 = .ok (.iconst 1, 1) := by decide +kernel
theorem dL_refused_825 : decode cL_refused 825 = .ok (.invokestatic 200, 3) := by decide +kernel
theorem dL_refused_828 : decode cL_refused 828 = .ok (.sipush (-1001), 3) := by decide +kernel
theorem dL_refused_831 : decode cL_refused 831 = .ok (.if_icmp .ne 98, 3) := by decide +kernel
theorem dL_refused_834 : decode cL_refused 834 = .ok (.aload_n 0, 1) := by decide +kernel
theorem dL_refused_835 : decode cL_refused 835 = .ok (.iconst (-1), 1) := by decide +kernel
theorem dL_refused_836 : decode cL_refused 836 = .ok (.iconst 1, 1) := by decide +kernel
theorem dL_refused_837 : decode cL_refused 837 = .ok (.invokestatic 200, 3) := by decide +kernel
theorem dL_refused_840 : decode cL_refused 840 = .ok (.sipush (-1001), 3) := by decide +kernel
theorem dL_refused_843 : decode cL_refused 843 = .ok (.if_icmp .ne 86, 3) := by decide +kernel
theorem dL_refused_846 : decode cL_refused 846 = .ok (.aload_n 0, 1) := by decide +kernel
theorem dL_refused_847 : decode cL_refused 847 = .ok (.iconst 3, 1) := by decide +kernel
theorem dL_refused_848 : decode cL_refused 848 = .ok (.invokestatic 151, 3) := by decide +kernel
theorem dL_refused_851 : decode cL_refused 851 = .ok (.sipush (-1001), 3) := by decide +kernel
theorem dL_refused_854 : decode cL_refused 854 = .ok (.if_icmp .ne 75, 3) := by decide +kernel
theorem dL_refused_857 : decode cL_refused 857 = .ok (.aload_n 0, 1) := by decide +kernel
theorem dL_refused_858 : decode cL_refused 858 = .ok (.iconst (-1), 1) := by decide +kernel
theorem dL_refused_859 : decode cL_refused 859 = .ok (.invokestatic 151, 3) := by decide +kernel
theorem dL_refused_862 : decode cL_refused 862 = .ok (.sipush (-1001), 3) := by decide +kernel
theorem dL_refused_865 : decode cL_refused 865 = .ok (.if_icmp .ne 64, 3) := by decide +kernel
theorem dL_refused_868 : decode cL_refused 868 = .ok (.aload_n 0, 1) := by decide +kernel
theorem dL_refused_869 : decode cL_refused 869 = .ok (.iconst (-1), 1) := by decide +kernel
theorem dL_refused_870 : decode cL_refused 870 = .ok (.invokestatic 157, 3) := by decide +kernel
theorem dL_refused_873 : decode cL_refused 873 = .ok (.sipush (-1001), 3) := by decide +kernel
theorem dL_refused_876 : decode cL_refused 876 = .ok (.if_icmp .ne 53, 3) := by decide +kernel
theorem dL_refused_879 : decode cL_refused 879 = .ok (.aload_n 0, 1) := by decide +kernel
theorem dL_refused_880 : decode cL_refused 880 = .ok (.sipush 200, 3) := by decide +kernel
theorem dL_refused_883 : decode cL_refused 883 = .ok (.invokestatic 157, 3) := by decide +kernel
theorem dL_refused_886 : decode cL_refused 886 = .ok (.sipush (-1001), 3) := by decide +kernel
theorem dL_refused_889 : decode cL_refused 889 = .ok (.if_icmp .ne 40, 3) := by decide +kernel
theorem dL_refused_892 : decode cL_refused 892 = .ok (.aload_n 0, 1) := by decide +kernel
theorem dL_refused_893 : decode cL_refused 893 = .ok (.bipush 11, 2) := by decide +kernel
theorem dL_refused_895 : decode cL_refused 895 = .ok (.invokestatic 196, 3) := by decide +kernel
theorem dL_refused_898 : decode cL_refused 898 = .ok (.sipush (-1001), 3) := by decide +kernel
theorem dL_refused_901 : decode cL_refused 901 = .ok (.if_icmp .ne 28, 3) := by decide +kernel
theorem dL_refused_904 : decode cL_refused 904 = .ok (.aload_n 0, 1) := by decide +kernel
theorem dL_refused_905 : decode cL_refused 905 = .ok (.iconst (-1), 1) := by decide +kernel
theorem dL_refused_906 : decode cL_refused 906 = .ok (.invokestatic 196, 3) := by decide +kernel
theorem dL_refused_909 : decode cL_refused 909 = .ok (.sipush (-1001), 3) := by decide +kernel
theorem dL_refused_912 : decode cL_refused 912 = .ok (.if_icmp .ne 17, 3) := by decide +kernel
theorem dL_refused_915 : decode cL_refused 915 = .ok (.aload_n 0, 1) := by decide +kernel
theorem dL_refused_916 : decode cL_refused 916 = .ok (.iconst 1, 1) := by decide +kernel
theorem dL_refused_917 : decode cL_refused 917 = .ok (.iconst 0, 1) := by decide +kernel
theorem dL_refused_918 : decode cL_refused 918 = .ok (.iconst 0, 1) := by decide +kernel
theorem dL_refused_919 : decode cL_refused 919 = .ok (.invokestatic 266, 3) := by decide +kernel
theorem dL_refused_922 : decode cL_refused 922 = .ok (.ifCond .eq 7, 3) := by decide +kernel
theorem dL_refused_925 : decode cL_refused 925 = .ok (.iconst 1, 1) := by decide +kernel
theorem dL_refused_926 : decode cL_refused 926 = .ok (.goto 4, 3) := by decide +kernel
theorem dL_refused_929 : decode cL_refused 929 = .ok (.iconst 0, 1) := by decide +kernel
theorem dL_refused_930 : decode cL_refused 930 = .ok (.istore 5, 2) := by decide +kernel
theorem dL_refused_932 : decode cL_refused 932 = .ok (.iload 5, 2) := by decide +kernel
theorem dL_refused_934 : decode cL_refused 934 = .ok (.ifCond .eq 126, 3) := by decide +kernel
theorem dL_refused_937 : decode cL_refused 937 = .ok (.aload_n 0, 1) := by decide +kernel
theorem dL_refused_938 : decode cL_refused 938 = .ok (.ldc_w 276, 3) := by decide +kernel
theorem dL_refused_941 : decode cL_refused 941 = .ok (.invokestatic 256, 3) := by decide +kernel
theorem dL_refused_944 : decode cL_refused 944 = .ok (.sipush (-1001), 3) := by decide +kernel
theorem dL_refused_947 : decode cL_refused 947 = .ok (.if_icmp .ne 113, 3) := by decide +kernel
theorem dL_refused_950 : decode cL_refused 950 = .ok (.aload_n 0, 1) := by decide +kernel
theorem dL_refused_951 : decode cL_refused 951 = .ok (.iconst 0, 1) := by decide +kernel
theorem dL_refused_952 : decode cL_refused 952 = .ok (.invokestatic 278, 3) := by decide +kernel
theorem dL_refused_955 : decode cL_refused 955 = .ok (.ifCond .eq 105, 3) := by decide +kernel
theorem dL_refused_958 : decode cL_refused 958 = .ok (.aload_n 0, 1) := by decide +kernel
theorem dL_refused_959 : decode cL_refused 959 = .ok (.new 235, 3) := by decide +kernel
theorem dL_refused_962 : decode cL_refused 962 = .ok (.dup, 1) := by decide +kernel
theorem dL_refused_963 : decode cL_refused 963 = .ok (.invokespecial 237, 3) := by decide +kernel
theorem dL_refused_966 : decode cL_refused 966 = .ok (.ldc 252, 2) := by decide +kernel
theorem dL_refused_968 : decode cL_refused 968 = .ok (.invokevirtual 240, 3) := by decide +kernel
theorem dL_refused_971 : decode cL_refused 971 = .ok (.iconst 3, 1) := by decide +kernel
theorem dL_refused_972 : decode cL_refused 972 = .ok (.iload 4, 2) := by decide +kernel
theorem dL_refused_974 : decode cL_refused 974 = .ok (.isub, 1) := by decide +kernel
theorem dL_refused_975 : decode cL_refused 975 = .ok (.invokevirtual 243, 3) := by decide +kernel
theorem dL_refused_978 : decode cL_refused 978 = .ok (.ldc_w 282, 3) := by decide +kernel
theorem dL_refused_981 : decode cL_refused 981 = .ok (.invokevirtual 240, 3) := by decide +kernel
theorem dL_refused_984 : decode cL_refused 984 = .ok (.iconst 3, 1) := by decide +kernel
theorem dL_refused_985 : decode cL_refused 985 = .ok (.iload 4, 2) := by decide +kernel
theorem dL_refused_987 : decode cL_refused 987 = .ok (.isub, 1) := by decide +kernel
theorem dL_refused_988 : decode cL_refused 988 = .ok (.invokevirtual 243, 3) := by decide +kernel
theorem dL_refused_991 : decode cL_refused 991 = .ok (.invokevirtual 248, 3) := by decide +kernel
theorem dL_refused_994 : decode cL_refused 994 = .ok (.invokestatic 256, 3) := by decide +kernel
theorem dL_refused_997 : decode cL_refused 997 = .ok (.sipush (-1002), 3) := by decide +kernel
theorem dL_refused_1000 : decode cL_refused 1000 = .ok (.if_icmp .ne 60, 3) := by decide +kernel
theorem dL_refused_1003 : decode cL_refused 1003 = .ok (.aload_n 0, 1) := by decide +kernel
theorem dL_refused_1004 : decode cL_refused 1004 = .ok (.iconst 5, 1) := by decide +kernel
theorem dL_refused_1005 : decode cL_refused 1005 = .ok (.iconst 0, 1) := by decide +kernel
theorem dL_refused_1006 : decode cL_refused 1006 = .ok (.iconst 1, 1) := by decide +kernel
theorem dL_refused_1007 : decode cL_refused 1007 = .ok (.invokestatic 266, 3) := by decide +kernel
theorem dL_refused_1010 : decode cL_refused 1010 = .ok (.ifCond .eq 50, 3) := by decide +kernel
theorem dL_refused_1013 : decode cL_refused 1013 = .ok (.aload_n 0, 1) := by decide +kernel
theorem dL_refused_1014 : decode cL_refused 1014 = .ok (.iconst (-1), 1) := by decide +kernel
theorem dL_refused_1015 : decode cL_refused 1015 = .ok (.invokestatic 278, 3) := by decide +kernel
theorem dL_refused_1018 : decode cL_refused 1018 = .ok (.ifCond .eq 42, 3) := by decide +kernel
theorem dL_refused_1021 : decode cL_refused 1021 = .ok (.aload_n 0, 1) := by decide +kernel
theorem dL_refused_1022 : decode cL_refused 1022 = .ok (.ldc_w 284, 3) := by decide +kernel
theorem dL_refused_1025 : decode cL_refused 1025 = .ok (.invokestatic 256, 3) := by decide +kernel
theorem dL_refused_1028 : decode cL_refused 1028 = .ok (.sipush (-1002), 3) := by decide +kernel
theorem dL_refused_1031 : decode cL_refused 1031 = .ok (.if_icmp .ne 29, 3) := by decide +kernel
theorem dL_refused_1034 : decode cL_refused 1034 = .ok (.aload_n 0, 1) := by decide +kernel
theorem dL_refused_1035 : decode cL_refused 1035 = .ok (.bipush 7, 2) := by decide +kernel
theorem dL_refused_1037 : decode cL_refused 1037 = .ok (.sipush 9999, 3) := by decide +kernel
theorem dL_refused_1040 : decode cL_refused 1040 = .ok (.iconst 2, 1) := by decide +kernel
theorem dL_refused_1041 : decode cL_refused 1041 = .ok (.invokestatic 266, 3) := by decide +kernel
theorem dL_refused_1044 : decode cL_refused 1044 = .ok (.ifCond .eq 16, 3) := by decide +kernel
theorem dL_refused_1047 : decode cL_refused 1047 = .ok (.aload_n 0, 1) := by decide +kernel
theorem dL_refused_1048 : decode cL_refused 1048 = .ok (.invokestatic 262, 3) := by decide +kernel
theorem dL_refused_1051 : decode cL_refused 1051 = .ok (.lload_n 1, 1) := by decide +kernel
theorem dL_refused_1052 : decode cL_refused 1052 = .ok (.lcmp, 1) := by decide +kernel
theorem dL_refused_1053 : decode cL_refused 1053 = .ok (.ifCond .ne 7, 3) := by decide +kernel
theorem dL_refused_1056 : decode cL_refused 1056 = .ok (.iconst 1, 1) := by decide +kernel
theorem dL_refused_1057 : decode cL_refused 1057 = .ok (.goto 4, 3) := by decide +kernel
theorem dL_refused_1060 : decode cL_refused 1060 = .ok (.iconst 0, 1) := by decide +kernel
theorem dL_refused_1061 : decode cL_refused 1061 = .ok (.ireturn, 1) := by decide +kernel
theorem dL_e_0 : decode cL_e 0 = .ok (.aload_n 0, 1) := by decide +kernel
theorem dL_e_1 : decode cL_e 1 = .ok (.invokevirtual 286, 3) := by decide +kernel
theorem dL_e_4 : decode cL_e 4 = .ok (.iload_n 1, 1) := by decide +kernel
theorem dL_e_5 : decode cL_e 5 = .ok (.if_icmp .ne 7, 3) := by decide +kernel
theorem dL_e_8 : decode cL_e 8 = .ok (.iconst 1, 1) := by decide +kernel
theorem dL_e_9 : decode cL_e 9 = .ok (.goto 4, 3) := by decide +kernel
theorem dL_e_12 : decode cL_e 12 = .ok (.iconst 0, 1) := by decide +kernel
theorem dL_e_13 : decode cL_e 13 = .ok (.ireturn, 1) := by decide +kernel
