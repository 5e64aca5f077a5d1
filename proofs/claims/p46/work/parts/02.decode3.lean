theorem dX8_start_34 : decode cX8_start 34 = .ok (.invokespecial 39, 3) := by decide +kernel
theorem dX8_start_37 : decode cX8_start 37 = .ok (.athrow, 1) := by decide +kernel
theorem dX8_start_38 : decode cX8_start 38 = .ok (.aload_n 0, 1) := by decide +kernel
theorem dX8_start_39 : decode cX8_start 39 = .ok (.getfield 24, 3) := by decide +kernel
theorem dX8_start_42 : decode cX8_start 42 = .ok (.getfield 125, 3) := by decide +kernel
theorem dX8_start_45 : decode cX8_start 45 = .ok (.bipush 24, 2) := by decide +kernel
theorem dX8_start_47 : decode cX8_start 47 = .ok (.if_icmp .lt 13, 3) := by decide +kernel
theorem dX8_start_50 : decode cX8_start 50 = .ok (.new 49, 3) := by decide +kernel
theorem dX8_start_53 : decode cX8_start 53 = .ok (.dup, 1) := by decide +kernel
theorem dX8_start_54 : decode cX8_start 54 = .ok (.ldc 128, 2) := by decide +kernel
theorem dX8_start_56 : decode cX8_start 56 = .ok (.invokespecial 53, 3) := by decide +kernel
theorem dX8_start_59 : decode cX8_start 59 = .ok (.athrow, 1) := by decide +kernel
theorem dX8_start_60 : decode cX8_start 60 = .ok (.aload_n 0, 1) := by decide +kernel
theorem dX8_start_61 : decode cX8_start 61 = .ok (.getfield 24, 3) := by decide +kernel
theorem dX8_start_64 : decode cX8_start 64 = .ok (.aload 4, 2) := by decide +kernel
theorem dX8_start_66 : decode cX8_start 66 = .ok (.iload_n 2, 1) := by decide +kernel
theorem dX8_start_67 : decode cX8_start 67 = .ok (.iload_n 3, 1) := by decide +kernel
theorem dX8_start_68 : decode cX8_start 68 = .ok (.invokevirtual 130, 3) := by decide +kernel
theorem dX8_start_71 : decode cX8_start 71 = .ok (.aload_n 0, 1) := by decide +kernel
theorem dX8_start_72 : decode cX8_start 72 = .ok (.getfield 24, 3) := by decide +kernel
theorem dX8_start_75 : decode cX8_start 75 = .ok (.getfield 125, 3) := by decide +kernel
theorem dX8_start_78 : decode cX8_start 78 = .ok (.iconst 1, 1) := by decide +kernel
theorem dX8_start_79 : decode cX8_start 79 = .ok (.isub, 1) := by decide +kernel
theorem dX8_start_80 : decode cX8_start 80 = .ok (.ireturn, 1) := by decide +kernel
theorem dX8_step_0 : decode cX8_step 0 = .ok (.aload_n 0, 1) := by decide +kernel
theorem dX8_step_1 : decode cX8_step 1 = .ok (.getfield 24, 3) := by decide +kernel
theorem dX8_step_4 : decode cX8_step 4 = .ok (.invokevirtual 134, 3) := by decide +kernel
theorem dX8_step_7 : decode cX8_step 7 = .ok (.astore_n 1, 1) := by decide +kernel
theorem dX8_step_8 : decode cX8_step 8 = .ok (.aload_n 1, 1) := by decide +kernel
theorem dX8_step_9 : decode cX8_step 9 = .ok (.ifnonnull 13, 3) := by decide +kernel
theorem dX8_step_12 : decode cX8_step 12 = .ok (.new 49, 3) := by decide +kernel
theorem dX8_step_15 : decode cX8_step 15 = .ok (.dup, 1) := by decide +kernel
theorem dX8_step_16 : decode cX8_step 16 = .ok (.ldc 138, 2) := by decide +kernel
theorem dX8_step_18 : decode cX8_step 18 = .ok (.invokespecial 53, 3) := by decide +kernel
theorem dX8_step_21 : decode cX8_step 21 = .ok (.athrow, 1) := by decide +kernel
theorem dX8_step_22 : decode cX8_step 22 = .ok (.aload_n 1, 1) := by decide +kernel
theorem dX8_step_23 : decode cX8_step 23 = .ok (.getfield 140, 3) := by decide +kernel
theorem dX8_step_26 : decode cX8_step 26 = .ok (.ireturn, 1) := by decide +kernel
theorem dX8_interrupt_0 : decode cX8_interrupt 0 = .ok (.aload_n 0, 1) := by decide +kernel
theorem dX8_interrupt_1 : decode cX8_interrupt 1 = .ok (.iload_n 1, 1) := by decide +kernel
theorem dX8_interrupt_2 : decode cX8_interrupt 2 = .ok (.invokevirtual 151, 3) := by decide +kernel
theorem dX8_interrupt_5 : decode cX8_interrupt 5 = .ok (.astore_n 2, 1) := by decide +kernel
theorem dX8_interrupt_6 : decode cX8_interrupt 6 = .ok (.aload_n 2, 1) := by decide +kernel
theorem dX8_interrupt_7 : decode cX8_interrupt 7 = .ok (.getfield 155, 3) := by decide +kernel
theorem dX8_interrupt_10 : decode cX8_interrupt 10 = .ok (.iconst 1, 1) := by decide +kernel
theorem dX8_interrupt_11 : decode cX8_interrupt 11 = .ok (.iconst 4, 1) := by decide +kernel
theorem dX8_interrupt_12 : decode cX8_interrupt 12 = .ok (.invokestatic 31, 3) := by decide +kernel
theorem dX8_interrupt_15 : decode cX8_interrupt 15 = .ok (.ifCond .ne 13, 3) := by decide +kernel
theorem dX8_interrupt_18 : decode cX8_interrupt 18 = .ok (.new 49, 3) := by decide +kernel
theorem dX8_interrupt_21 : decode cX8_interrupt 21 = .ok (.dup, 1) := by decide +kernel
theorem dX8_interrupt_22 : decode cX8_interrupt 22 = .ok (.ldc 158, 2) := by decide +kernel
theorem dX8_interrupt_24 : decode cX8_interrupt 24 = .ok (.invokespecial 53, 3) := by decide +kernel
theorem dX8_interrupt_27 : decode cX8_interrupt 27 = .ok (.athrow, 1) := by decide +kernel
theorem dX8_interrupt_28 : decode cX8_interrupt 28 = .ok (.aload_n 0, 1) := by decide +kernel
theorem dX8_interrupt_29 : decode cX8_interrupt 29 = .ok (.getfield 24, 3) := by decide +kernel
theorem dX8_interrupt_32 : decode cX8_interrupt 32 = .ok (.aload_n 2, 1) := by decide +kernel
theorem dX8_interrupt_33 : decode cX8_interrupt 33 = .ok (.invokevirtual 160, 3) := by decide +kernel
theorem dX8_interrupt_36 : decode cX8_interrupt 36 = .ok (.aload_n 2, 1) := by decide +kernel
theorem dX8_interrupt_37 : decode cX8_interrupt 37 = .ok (.getfield 164, 3) := by decide +kernel
theorem dX8_interrupt_40 : decode cX8_interrupt 40 = .ok (.ireturn, 1) := by decide +kernel
theorem dX8_cancel_0 : decode cX8_cancel 0 = .ok (.aload_n 0, 1) := by decide +kernel
theorem dX8_cancel_1 : decode cX8_cancel 1 = .ok (.iload_n 1, 1) := by decide +kernel
theorem dX8_cancel_2 : decode cX8_cancel 2 = .ok (.invokevirtual 151, 3) := by decide +kernel
theorem dX8_cancel_5 : decode cX8_cancel 5 = .ok (.astore_n 2, 1) := by decide +kernel
theorem dX8_cancel_6 : decode cX8_cancel 6 = .ok (.aload_n 2, 1) := by decide +kernel
theorem dX8_cancel_7 : decode cX8_cancel 7 = .ok (.invokevirtual 167, 3) := by decide +kernel
theorem dX8_cancel_10 : decode cX8_cancel 10 = .ok (.ifCond .eq 13, 3) := by decide +kernel
theorem dX8_cancel_13 : decode cX8_cancel 13 = .ok (.new 49, 3) := by decide +kernel
theorem dX8_cancel_16 : decode cX8_cancel 16 = .ok (.dup, 1) := by decide +kernel
theorem dX8_cancel_17 : decode cX8_cancel 17 = .ok (.ldc 171, 2) := by decide +kernel
theorem dX8_cancel_19 : decode cX8_cancel 19 = .ok (.invokespecial 53, 3) := by decide +kernel
theorem dX8_cancel_22 : decode cX8_cancel 22 = .ok (.athrow, 1) := by decide +kernel
theorem dX8_cancel_23 : decode cX8_cancel 23 = .ok (.aload_n 2, 1) := by decide +kernel
theorem dX8_cancel_24 : decode cX8_cancel 24 = .ok (.invokevirtual 173, 3) := by decide +kernel
theorem dX8_cancel_27 : decode cX8_cancel 27 = .ok (.istore_n 3, 1) := by decide +kernel
theorem dX8_cancel_28 : decode cX8_cancel 28 = .ok (.aload_n 0, 1) := by decide +kernel
theorem dX8_cancel_29 : decode cX8_cancel 29 = .ok (.getfield 24, 3) := by decide +kernel
theorem dX8_cancel_32 : decode cX8_cancel 32 = .ok (.aload_n 2, 1) := by decide +kernel
theorem dX8_cancel_33 : decode cX8_cancel 33 = .ok (.bipush 7, 2) := by decide +kernel
theorem dX8_cancel_35 : decode cX8_cancel 35 = .ok (.invokevirtual 176, 3) := by decide +kernel
theorem dX8_cancel_38 : decode cX8_cancel 38 = .ok (.iload_n 3, 1) := by decide +kernel
theorem dX8_cancel_39 : decode cX8_cancel 39 = .ok (.ireturn, 1) := by decide +kernel
theorem dX8_time_0 : decode cX8_time 0 = .ok (.aload_n 0, 1) := by decide +kernel
theorem dX8_time_1 : decode cX8_time 1 = .ok (.getfield 24, 3) := by decide +kernel
theorem dX8_time_4 : decode cX8_time 4 = .ok (.getfield 180, 3) := by decide +kernel
theorem dX8_time_7 : decode cX8_time 7 = .ok (.ireturn, 1) := by decide +kernel
theorem dX8_luck_0 : decode cX8_luck 0 = .ok (.aload_n 0, 1) := by decide +kernel
theorem dX8_luck_1 : decode cX8_luck 1 = .ok (.getfield 24, 3) := by decide +kernel
theorem dX8_luck_4 : decode cX8_luck 4 = .ok (.getfield 120, 3) := by decide +kernel
theorem dX8_luck_7 : decode cX8_luck 7 = .ok (.ireturn, 1) := by decide +kernel
theorem dX8_events_0 : decode cX8_events 0 = .ok (.aload_n 0, 1) := by decide +kernel
theorem dX8_events_1 : decode cX8_events 1 = .ok (.getfield 24, 3) := by decide +kernel
theorem dX8_events_4 : decode cX8_events 4 = .ok (.invokevirtual 183, 3) := by decide +kernel
theorem dX8_events_7 : decode cX8_events 7 = .ok (.ireturn, 1) := by decide +kernel
theorem dX8_nextTime_0 : decode cX8_nextTime 0 = .ok (.aload_n 0, 1) := by decide +kernel
theorem dX8_nextTime_1 : decode cX8_nextTime 1 = .ok (.getfield 24, 3) := by decide +kernel
theorem dX8_nextTime_4 : decode cX8_nextTime 4 = .ok (.invokevirtual 186, 3) := by decide +kernel
theorem dX8_nextTime_7 : decode cX8_nextTime 7 = .ok (.astore_n 1, 1) := by decide +kernel
theorem dX8_nextTime_8 : decode cX8_nextTime 8 = .ok (.aload_n 1, 1) := by decide +kernel
theorem dX8_nextTime_9 : decode cX8_nextTime 9 = .ok (.ifnonnull 7, 3) := by decide +kernel
theorem dX8_nextTime_12 : decode cX8_nextTime 12 = .ok (.iconst (-1), 1) := by decide +kernel
theorem dX8_nextTime_13 : decode cX8_nextTime 13 = .ok (.goto 7, 3) := by decide +kernel
theorem dX8_nextTime_16 : decode cX8_nextTime 16 = .ok (.aload_n 1, 1) := by decide +kernel
theorem dX8_nextTime_17 : decode cX8_nextTime 17 = .ok (.getfield 189, 3) := by decide +kernel
theorem dX8_nextTime_20 : decode cX8_nextTime 20 = .ok (.ireturn, 1) := by decide +kernel
theorem dX8_processes_0 : decode cX8_processes 0 = .ok (.aload_n 0, 1) := by decide +kernel
theorem dX8_processes_1 : decode cX8_processes 1 = .ok (.getfield 24, 3) := by decide +kernel
theorem dX8_processes_4 : decode cX8_processes 4 = .ok (.getfield 125, 3) := by decide +kernel
theorem dX8_processes_7 : decode cX8_processes 7 = .ok (.ireturn, 1) := by decide +kernel
theorem dX8_done_0 : decode cX8_done 0 = .ok (.aload_n 0, 1) := by decide +kernel
theorem dX8_done_1 : decode cX8_done 1 = .ok (.getfield 24, 3) := by decide +kernel
theorem dX8_done_4 : decode cX8_done 4 = .ok (.getfield 192, 3) := by decide +kernel
theorem dX8_done_7 : decode cX8_done 7 = .ok (.ireturn, 1) := by decide +kernel
theorem dX8_stateOf_0 : decode cX8_stateOf 0 = .ok (.aload_n 0, 1) := by decide +kernel
theorem dX8_stateOf_1 : decode cX8_stateOf 1 = .ok (.iload_n 1, 1) := by decide +kernel
theorem dX8_stateOf_2 : decode cX8_stateOf 2 = .ok (.invokevirtual 151, 3) := by decide +kernel
theorem dX8_stateOf_5 : decode cX8_stateOf 5 = .ok (.getfield 155, 3) := by decide +kernel
theorem dX8_stateOf_8 : decode cX8_stateOf 8 = .ok (.ireturn, 1) := by decide +kernel
theorem dX8_placeOf_0 : decode cX8_placeOf 0 = .ok (.aload_n 0, 1) := by decide +kernel
theorem dX8_placeOf_1 : decode cX8_placeOf 1 = .ok (.iload_n 1, 1) := by decide +kernel
theorem dX8_placeOf_2 : decode cX8_placeOf 2 = .ok (.invokevirtual 151, 3) := by decide +kernel
theorem dX8_placeOf_5 : decode cX8_placeOf 5 = .ok (.getfield 195, 3) := by decide +kernel
theorem dX8_placeOf_8 : decode cX8_placeOf 8 = .ok (.ireturn, 1) := by decide +kernel
theorem dX8_rankOf_0 : decode cX8_rankOf 0 = .ok (.aload_n 0, 1) := by decide +kernel
theorem dX8_rankOf_1 : decode cX8_rankOf 1 = .ok (.iload_n 1, 1) := by decide +kernel
theorem dX8_rankOf_2 : decode cX8_rankOf 2 = .ok (.invokevirtual 151, 3) := by decide +kernel
theorem dX8_rankOf_5 : decode cX8_rankOf 5 = .ok (.getfield 198, 3) := by decide +kernel
theorem dX8_rankOf_8 : decode cX8_rankOf 8 = .ok (.ireturn, 1) := by decide +kernel
theorem dX8_restOf_0 : decode cX8_restOf 0 = .ok (.aload_n 0, 1) := by decide +kernel
theorem dX8_restOf_1 : decode cX8_restOf 1 = .ok (.iload_n 1, 1) := by decide +kernel
theorem dX8_restOf_2 : decode cX8_restOf 2 = .ok (.invokevirtual 151, 3) := by decide +kernel
theorem dX8_restOf_5 : decode cX8_restOf 5 = .ok (.getfield 164, 3) := by decide +kernel
theorem dX8_restOf_8 : decode cX8_restOf 8 = .ok (.ireturn, 1) := by decide +kernel
theorem dX8_markOf_0 : decode cX8_markOf 0 = .ok (.aload_n 0, 1) := by decide +kernel
theorem dX8_markOf_1 : decode cX8_markOf 1 = .ok (.iload_n 1, 1) := by decide +kernel
theorem dX8_markOf_2 : decode cX8_markOf 2 = .ok (.invokevirtual 151, 3) := by decide +kernel
theorem dX8_markOf_5 : decode cX8_markOf 5 = .ok (.getfield 201, 3) := by decide +kernel
theorem dX8_markOf_8 : decode cX8_markOf 8 = .ok (.ireturn, 1) := by decide +kernel
theorem dX8_eventOf_0 : decode cX8_eventOf 0 = .ok (.aload_n 0, 1) := by decide +kernel
theorem dX8_eventOf_1 : decode cX8_eventOf 1 = .ok (.iload_n 1, 1) := by decide +kernel
theorem dX8_eventOf_2 : decode cX8_eventOf 2 = .ok (.invokevirtual 151, 3) := by decide +kernel
theorem dX8_eventOf_5 : decode cX8_eventOf 5 = .ok (.getfield 189, 3) := by decide +kernel
theorem dX8_eventOf_8 : decode cX8_eventOf 8 = .ok (.ireturn, 1) := by decide +kernel
theorem dX8_holds_0 : decode cX8_holds 0 = .ok (.aload_n 0, 1) := by decide +kernel
theorem dX8_holds_1 : decode cX8_holds 1 = .ok (.iload_n 1, 1) := by decide +kernel
theorem dX8_holds_2 : decode cX8_holds 2 = .ok (.invokevirtual 151, 3) := by decide +kernel
theorem dX8_holds_5 : decode cX8_holds 5 = .ok (.astore_n 3, 1) := by decide +kernel
theorem dX8_holds_6 : decode cX8_holds 6 = .ok (.aload_n 0, 1) := by decide +kernel
theorem dX8_holds_7 : decode cX8_holds 7 = .ok (.iload_n 2, 1) := by decide +kernel
theorem dX8_holds_8 : decode cX8_holds 8 = .ok (.invokevirtual 204, 3) := by decide +kernel
theorem dX8_holds_11 : decode cX8_holds 11 = .ok (.astore 4, 2) := by decide +kernel
theorem dX8_holds_13 : decode cX8_holds 13 = .ok (.aload_n 3, 1) := by decide +kernel
theorem dX8_holds_14 : decode cX8_holds 14 = .ok (.getfield 208, 3) := by decide +kernel
theorem dX8_holds_17 : decode cX8_holds 17 = .ok (.aload 4, 2) := by decide +kernel
theorem dX8_holds_19 : decode cX8_holds 19 = .ok (.getfield 212, 3) := by decide +kernel
theorem dX8_holds_22 : decode cX8_holds 22 = .ok (.invokestatic 213, 3) := by decide +kernel
theorem dX8_holds_25 : decode cX8_holds 25 = .ok (.ireturn, 1) := by decide +kernel
theorem dX8_free_0 : decode cX8_free 0 = .ok (.aload_n 0, 1) := by decide +kernel
theorem dX8_free_1 : decode cX8_free 1 = .ok (.iload_n 1, 1) := by decide +kernel
theorem dX8_free_2 : decode cX8_free 2 = .ok (.invokevirtual 204, 3) := by decide +kernel
theorem dX8_free_5 : decode cX8_free 5 = .ok (.getfield 217, 3) := by decide +kernel
theorem dX8_free_8 : decode cX8_free 8 = .ok (.ireturn, 1) := by decide +kernel
theorem dX8_queued_0 : decode cX8_queued 0 = .ok (.aload_n 0, 1) := by decide +kernel
theorem dX8_queued_1 : decode cX8_queued 1 = .ok (.getfield 24, 3) := by decide +kernel
theorem dX8_queued_4 : decode cX8_queued 4 = .ok (.aload_n 0, 1) := by decide +kernel
theorem dX8_queued_5 : decode cX8_queued 5 = .ok (.iload_n 1, 1) := by decide +kernel
theorem dX8_queued_6 : decode cX8_queued 6 = .ok (.invokevirtual 204, 3) := by decide +kernel
theorem dX8_queued_9 : decode cX8_queued 9 = .ok (.getfield 212, 3) := by decide +kernel
theorem dX8_queued_12 : decode cX8_queued 12 = .ok (.invokevirtual 220, 3) := by decide +kernel
theorem dX8_queued_15 : decode cX8_queued 15 = .ok (.ireturn, 1) := by decide +kernel
theorem dX8_queuedAt_0 : decode cX8_queuedAt 0 = .ok (.aload_n 0, 1) := by decide +kernel
theorem dX8_queuedAt_1 : decode cX8_queuedAt 1 = .ok (.getfield 24, 3) := by decide +kernel
theorem dX8_queuedAt_4 : decode cX8_queuedAt 4 = .ok (.aload_n 0, 1) := by decide +kernel
theorem dX8_queuedAt_5 : decode cX8_queuedAt 5 = .ok (.iload_n 1, 1) := by decide +kernel
theorem dX8_queuedAt_6 : decode cX8_queuedAt 6 = .ok (.invokevirtual 204, 3) := by decide +kernel
theorem dX8_queuedAt_9 : decode cX8_queuedAt 9 = .ok (.getfield 212, 3) := by decide +kernel
theorem dX8_queuedAt_12 : decode cX8_queuedAt 12 = .ok (.iload_n 2, 1) := by decide +kernel
theorem dX8_queuedAt_13 : decode cX8_queuedAt 13 = .ok (.invokevirtual 223, 3) := by decide +kernel
theorem dX8_queuedAt_16 : decode cX8_queuedAt 16 = .ok (.astore_n 3, 1) := by decide +kernel
theorem dX8_queuedAt_17 : decode cX8_queuedAt 17 = .ok (.aload_n 3, 1) := by decide +kernel
theorem dX8_queuedAt_18 : decode cX8_queuedAt 18 = .ok (.ifnonnull 13, 3) := by decide +kernel
theorem dX8_queuedAt_21 : decode cX8_queuedAt 21 = .ok (.new 227, 3) := by decide +kernel
theorem dX8_queuedAt_24 : decode cX8_queuedAt 24 = .ok (.dup, 1) := by decide +kernel
theorem dX8_queuedAt_25 : decode cX8_queuedAt 25 = .ok (.ldc 229, 2) := by decide +kernel
theorem dX8_queuedAt_27 : decode cX8_queuedAt 27 = .ok (.invokespecial 231, 3) := by decide +kernel
theorem dX8_queuedAt_30 : decode cX8_queuedAt 30 = .ok (.athrow, 1) := by decide +kernel
theorem dX8_queuedAt_31 : decode cX8_queuedAt 31 = .ok (.aload_n 3, 1) := by decide +kernel
theorem dX8_queuedAt_32 : decode cX8_queuedAt 32 = .ok (.getfield 140, 3) := by decide +kernel
theorem dX8_queuedAt_35 : decode cX8_queuedAt 35 = .ok (.ireturn, 1) := by decide +kernel
theorem dX8_busy_0 : decode cX8_busy 0 = .ok (.aload_n 0, 1) := by decide +kernel
theorem dX8_busy_1 : decode cX8_busy 1 = .ok (.iload_n 1, 1) := by decide +kernel
theorem dX8_busy_2 : decode cX8_busy 2 = .ok (.invokevirtual 204, 3) := by decide +kernel
theorem dX8_busy_5 : decode cX8_busy 5 = .ok (.getfield 232, 3) := by decide +kernel
theorem dX8_busy_8 : decode cX8_busy 8 = .ok (.ireturn, 1) := by decide +kernel
theorem dX8_queueing_0 : decode cX8_queueing 0 = .ok (.aload_n 0, 1) := by decide +kernel
theorem dX8_queueing_1 : decode cX8_queueing 1 = .ok (.iload_n 1, 1) := by decide +kernel
theorem dX8_queueing_2 : decode cX8_queueing 2 = .ok (.invokevirtual 204, 3) := by decide +kernel
theorem dX8_queueing_5 : decode cX8_queueing 5 = .ok (.getfield 235, 3) := by decide +kernel
theorem dX8_queueing_8 : decode cX8_queueing 8 = .ok (.ireturn, 1) := by decide +kernel
theorem dX8_longest_0 : decode cX8_longest 0 = .ok (.aload_n 0, 1) := by decide +kernel
theorem dX8_longest_1 : decode cX8_longest 1 = .ok (.iload_n 1, 1) := by decide +kernel
theorem dX8_longest_2 : decode cX8_longest 2 = .ok (.invokevirtual 204, 3) := by decide +kernel
theorem dX8_longest_5 : decode cX8_longest 5 = .ok (.getfield 238, 3) := by decide +kernel
theorem dX8_longest_8 : decode cX8_longest 8 = .ok (.ireturn, 1) := by decide +kernel
theorem dX8_level_0 : decode cX8_level 0 = .ok (.aload_n 0, 1) := by decide +kernel
theorem dX8_level_1 : decode cX8_level 1 = .ok (.iload_n 1, 1) := by decide +kernel
theorem dX8_level_2 : decode cX8_level 2 = .ok (.invokevirtual 241, 3) := by decide +kernel
theorem dX8_level_5 : decode cX8_level 5 = .ok (.getfield 245, 3) := by decide +kernel
theorem dX8_level_8 : decode cX8_level 8 = .ok (.ireturn, 1) := by decide +kernel
theorem dX8_blocked_0 : decode cX8_blocked 0 = .ok (.aload_n 0, 1) := by decide +kernel
theorem dX8_blocked_1 : decode cX8_blocked 1 = .ok (.getfield 24, 3) := by decide +kernel
theorem dX8_blocked_4 : decode cX8_blocked 4 = .ok (.aload_n 0, 1) := by decide +kernel
theorem dX8_blocked_5 : decode cX8_blocked 5 = .ok (.iload_n 1, 1) := by decide +kernel
theorem dX8_blocked_6 : decode cX8_blocked 6 = .ok (.invokevirtual 241, 3) := by decide +kernel
theorem dX8_blocked_9 : decode cX8_blocked 9 = .ok (.iload_n 2, 1) := by decide +kernel
theorem dX8_blocked_10 : decode cX8_blocked 10 = .ok (.invokevirtual 248, 3) := by decide +kernel
theorem dX8_blocked_13 : decode cX8_blocked 13 = .ok (.invokevirtual 220, 3) := by decide +kernel
theorem dX8_blocked_16 : decode cX8_blocked 16 = .ok (.ireturn, 1) := by decide +kernel
theorem dX8_area_0 : decode cX8_area 0 = .ok (.aload_n 0, 1) := by decide +kernel
theorem dX8_area_1 : decode cX8_area 1 = .ok (.iload_n 1, 1) := by decide +kernel
theorem dX8_area_2 : decode cX8_area 2 = .ok (.invokevirtual 241, 3) := by decide +kernel
theorem dX8_area_5 : decode cX8_area 5 = .ok (.getfield 252, 3) := by decide +kernel
theorem dX8_area_8 : decode cX8_area 8 = .ok (.ireturn, 1) := by decide +kernel
theorem dX8_awaiting_0 : decode cX8_awaiting 0 = .ok (.iload_n 1, 1) := by decide +kernel
theorem dX8_awaiting_1 : decode cX8_awaiting 1 = .ok (.invokestatic 255, 3) := by decide +kernel
theorem dX8_awaiting_4 : decode cX8_awaiting 4 = .ok (.ifCond .ne 14, 3) := by decide +kernel
theorem dX8_awaiting_7 : decode cX8_awaiting 7 = .ok (.new 227, 3) := by decide +kernel
theorem dX8_awaiting_10 : decode cX8_awaiting 10 = .ok (.dup, 1) := by decide +kernel
theorem dX8_awaiting_11 : decode cX8_awaiting 11 = .ok (.ldc_w 259, 3) := by decide +kernel
theorem dX8_awaiting_14 : decode cX8_awaiting 14 = .ok (.invokespecial 231, 3) := by decide +kernel
theorem dX8_awaiting_17 : decode cX8_awaiting 17 = .ok (.athrow, 1) := by decide +kernel
theorem dX8_awaiting_18 : decode cX8_awaiting 18 = .ok (.aload_n 0, 1) := by decide +kernel
theorem dX8_awaiting_19 : decode cX8_awaiting 19 = .ok (.getfield 24, 3) := by decide +kernel
theorem dX8_awaiting_22 : decode cX8_awaiting 22 = .ok (.bipush 14, 2) := by decide +kernel
theorem dX8_awaiting_24 : decode cX8_awaiting 24 = .ok (.iload_n 1, 1) := by decide +kernel
theorem dX8_awaiting_25 : decode cX8_awaiting 25 = .ok (.iadd, 1) := by decide +kernel
theorem dX8_awaiting_26 : decode cX8_awaiting 26 = .ok (.invokevirtual 220, 3) := by decide +kernel
theorem dX8_awaiting_29 : decode cX8_awaiting 29 = .ok (.ireturn, 1) := by decide +kernel
theorem dX8_tallied_0 : decode cX8_tallied 0 = .ok (.aload_n 0, 1) := by decide +kernel
theorem dX8_tallied_1 : decode cX8_tallied 1 = .ok (.iload_n 1, 1) := by decide +kernel
theorem dX8_tallied_2 : decode cX8_tallied 2 = .ok (.invokevirtual 261, 3) := by decide +kernel
theorem dX8_tallied_5 : decode cX8_tallied 5 = .ok (.getfield 265, 3) := by decide +kernel
theorem dX8_tallied_8 : decode cX8_tallied 8 = .ok (.ireturn, 1) := by decide +kernel
theorem dX8_ofTally_0 : decode cX8_ofTally 0 = .ok (.aload_n 0, 1) := by decide +kernel
theorem dX8_ofTally_1 : decode cX8_ofTally 1 = .ok (.iload_n 1, 1) := by decide +kernel
theorem dX8_ofTally_2 : decode cX8_ofTally 2 = .ok (.invokevirtual 261, 3) := by decide +kernel
theorem dX8_ofTally_5 : decode cX8_ofTally 5 = .ok (.astore_n 3, 1) := by decide +kernel
theorem dX8_ofTally_6 : decode cX8_ofTally 6 = .ok (.iload_n 2, 1) := by decide +kernel
theorem dX8_ofTally_7 : decode cX8_ofTally 7 = .ok (.tableswitch 49 0 3 #[29, 34, 39, 44], 29) := by decide +kernel
theorem dX8_ofTally_36 : decode cX8_ofTally 36 = .ok (.aload_n 3, 1) := by decide +kernel
theorem dX8_ofTally_37 : decode cX8_ofTally 37 = .ok (.getfield 268, 3) := by decide +kernel
theorem dX8_ofTally_40 : decode cX8_ofTally 40 = .ok (.ireturn, 1) := by decide +kernel
theorem dX8_ofTally_41 : decode cX8_ofTally 41 = .ok (.aload_n 3, 1) := by decide +kernel
theorem dX8_ofTally_42 : decode cX8_ofTally 42 = .ok (.getfield 271, 3) := by decide +kernel
theorem dX8_ofTally_45 : decode cX8_ofTally 45 = .ok (.ireturn, 1) := by decide +kernel
theorem dX8_ofTally_46 : decode cX8_ofTally 46 = .ok (.aload_n 3, 1) := by decide +kernel
theorem dX8_ofTally_47 : decode cX8_ofTally 47 = .ok (.getfield 274, 3) := by decide +kernel
theorem dX8_ofTally_50 : decode cX8_ofTally 50 = .ok (.ireturn, 1) := by decide +kernel
theorem dX8_ofTally_51 : decode cX8_ofTally 51 = .ok (.aload_n 3, 1) := by decide +kernel
theorem dX8_ofTally_52 : decode cX8_ofTally 52 = .ok (.getfield 277, 3) := by decide +kernel
theorem dX8_ofTally_55 : decode cX8_ofTally 55 = .ok (.ireturn, 1) := by decide +kernel
theorem dX8_ofTally_56 : decode cX8_ofTally 56 = .ok (.new 35, 3) := by decide +kernel
theorem dX8_ofTally_59 : decode cX8_ofTally 59 = .ok (.dup, 1) := by decide +kernel
theorem dX8_ofTally_60 : decode cX8_ofTally 60 = .ok (.ldc_w 280, 3) := by decide +kernel
theorem dX8_ofTally_63 : decode cX8_ofTally 63 = .ok (.invokespecial 39, 3) := by decide +kernel
theorem dX8_ofTally_66 : decode cX8_ofTally 66 = .ok (.athrow, 1) := by decide +kernel
theorem dX8_batches_0 : decode cX8_batches 0 = .ok (.aload_n 0, 1) := by decide +kernel
theorem dX8_batches_1 : decode cX8_batches 1 = .ok (.iload_n 1, 1) := by decide +kernel
theorem dX8_batches_2 : decode cX8_batches 2 = .ok (.invokevirtual 261, 3) := by decide +kernel
theorem dX8_batches_5 : decode cX8_batches 5 = .ok (.getfield 282, 3) := by decide +kernel
theorem dX8_batches_8 : decode cX8_batches 8 = .ok (.ireturn, 1) := by decide +kernel
theorem dX8_sumOf_0 : decode cX8_sumOf 0 = .ok (.aload_n 0, 1) := by decide +kernel
theorem dX8_sumOf_1 : decode cX8_sumOf 1 = .ok (.iload_n 1, 1) := by decide +kernel
theorem dX8_sumOf_2 : decode cX8_sumOf 2 = .ok (.invokevirtual 261, 3) := by decide +kernel
theorem dX8_sumOf_5 : decode cX8_sumOf 5 = .ok (.astore_n 3, 1) := by decide +kernel
theorem dX8_sumOf_6 : decode cX8_sumOf 6 = .ok (.iload_n 2, 1) := by decide +kernel
theorem dX8_sumOf_7 : decode cX8_sumOf 7 = .ok (.ifCond .lt 11, 3) := by decide +kernel
theorem dX8_sumOf_10 : decode cX8_sumOf 10 = .ok (.iload_n 2, 1) := by decide +kernel
theorem dX8_sumOf_11 : decode cX8_sumOf 11 = .ok (.aload_n 3, 1) := by decide +kernel
theorem dX8_sumOf_12 : decode cX8_sumOf 12 = .ok (.getfield 282, 3) := by decide +kernel
theorem dX8_sumOf_15 : decode cX8_sumOf 15 = .ok (.if_icmp .lt 14, 3) := by decide +kernel
theorem dX8_sumOf_18 : decode cX8_sumOf 18 = .ok (.new 227, 3) := by decide +kernel
theorem dX8_sumOf_21 : decode cX8_sumOf 21 = .ok (.dup, 1) := by decide +kernel
theorem dX8_sumOf_22 : decode cX8_sumOf 22 = .ok (.ldc_w 285, 3) := by decide +kernel
theorem dX8_sumOf_25 : decode cX8_sumOf 25 = .ok (.invokespecial 231, 3) := by decide +kernel
theorem dX8_sumOf_28 : decode cX8_sumOf 28 = .ok (.athrow, 1) := by decide +kernel
theorem dX8_sumOf_29 : decode cX8_sumOf 29 = .ok (.aload_n 3, 1) := by decide +kernel
theorem dX8_sumOf_30 : decode cX8_sumOf 30 = .ok (.iload_n 2, 1) := by decide +kernel
theorem dX8_sumOf_31 : decode cX8_sumOf 31 = .ok (.invokevirtual 287, 3) := by decide +kernel
theorem dX8_sumOf_34 : decode cX8_sumOf 34 = .ok (.ireturn, 1) := by decide +kernel
theorem dX8_spread_0 : decode cX8_spread 0 = .ok (.aload_n 0, 1) := by decide +kernel
theorem dX8_spread_1 : decode cX8_spread 1 = .ok (.iload_n 1, 1) := by decide +kernel
theorem dX8_spread_2 : decode cX8_spread 2 = .ok (.invokevirtual 261, 3) := by decide +kernel
theorem dX8_spread_5 : decode cX8_spread 5 = .ok (.invokevirtual 290, 3) := by decide +kernel
theorem dX8_spread_8 : decode cX8_spread 8 = .ok (.dreturn, 1) := by decide +kernel
theorem dX8_endOf_0 : decode cX8_endOf 0 = .ok (.aload_n 0, 1) := by decide +kernel
theorem dX8_endOf_1 : decode cX8_endOf 1 = .ok (.iload_n 1, 1) := by decide +kernel
theorem dX8_endOf_2 : decode cX8_endOf 2 = .ok (.invokevirtual 151, 3) := by decide +kernel
theorem dX8_endOf_5 : decode cX8_endOf 5 = .ok (.astore_n 3, 1) := by decide +kernel
theorem dX8_endOf_6 : decode cX8_endOf 6 = .ok (.iload_n 2, 1) := by decide +kernel
theorem dX8_endOf_7 : decode cX8_endOf 7 = .ok (.iconst 1, 1) := by decide +kernel
theorem dX8_endOf_8 : decode cX8_endOf 8 = .ok (.bipush 100, 2) := by decide +kernel
theorem dX8_endOf_10 : decode cX8_endOf 10 = .ok (.invokestatic 31, 3) := by decide +kernel
theorem dX8_endOf_13 : decode cX8_endOf 13 = .ok (.ifCond .ne 14, 3) := by decide +kernel
theorem dX8_endOf_16 : decode cX8_endOf 16 = .ok (.new 35, 3) := by decide +kernel
theorem dX8_endOf_19 : decode cX8_endOf 19 = .ok (.dup, 1) := by decide +kernel
theorem dX8_endOf_20 : decode cX8_endOf 20 = .ok (.ldc_w 294, 3) := by decide +kernel
theorem dX8_endOf_23 : decode cX8_endOf 23 = .ok (.invokespecial 39, 3) := by decide +kernel
theorem dX8_endOf_26 : decode cX8_endOf 26 = .ok (.athrow, 1) := by decide +kernel
theorem dX8_endOf_27 : decode cX8_endOf 27 = .ok (.aload_n 3, 1) := by decide +kernel
theorem dX8_endOf_28 : decode cX8_endOf 28 = .ok (.invokevirtual 167, 3) := by decide +kernel
theorem dX8_endOf_31 : decode cX8_endOf 31 = .ok (.ifCond .eq 11, 3) := by decide +kernel
theorem dX8_endOf_34 : decode cX8_endOf 34 = .ok (.aload_n 0, 1) := by decide +kernel
theorem dX8_endOf_35 : decode cX8_endOf 35 = .ok (.getfield 24, 3) := by decide +kernel
theorem dX8_endOf_38 : decode cX8_endOf 38 = .ok (.getfield 180, 3) := by decide +kernel
theorem dX8_endOf_41 : decode cX8_endOf 41 = .ok (.ireturn, 1) := by decide +kernel
theorem dX8_endOf_42 : decode cX8_endOf 42 = .ok (.aload_n 0, 1) := by decide +kernel
theorem dX8_endOf_43 : decode cX8_endOf 43 = .ok (.getfield 28, 3) := by decide +kernel
theorem dX8_endOf_46 : decode cX8_endOf 46 = .ok (.aload_n 0, 1) := by decide +kernel
theorem dX8_endOf_47 : decode cX8_endOf 47 = .ok (.getfield 24, 3) := by decide +kernel
theorem dX8_endOf_50 : decode cX8_endOf 50 = .ok (.invokevirtual 296, 3) := by decide +kernel
theorem dX8_endOf_53 : decode cX8_endOf 53 = .ok (.aload_n 0, 1) := by decide +kernel
theorem dX8_endOf_54 : decode cX8_endOf 54 = .ok (.getfield 28, 3) := by decide +kernel
theorem dX8_endOf_57 : decode cX8_endOf 57 = .ok (.iload_n 1, 1) := by decide +kernel
theorem dX8_endOf_58 : decode cX8_endOf 58 = .ok (.iload_n 2, 1) := by decide +kernel
theorem dX8_endOf_59 : decode cX8_endOf 59 = .ok (.invokevirtual 300, 3) := by decide +kernel
theorem dX8_endOf_62 : decode cX8_endOf 62 = .ok (.ireturn, 1) := by decide +kernel
theorem dX8_wouldBeBusy_0 : decode cX8_wouldBeBusy 0 = .ok (.aload_n 0, 1) := by decide +kernel
theorem dX8_wouldBeBusy_1 : decode cX8_wouldBeBusy 1 = .ok (.iload_n 1, 1) := by decide +kernel
theorem dX8_wouldBeBusy_2 : decode cX8_wouldBeBusy 2 = .ok (.invokevirtual 204, 3) := by decide +kernel
theorem dX8_wouldBeBusy_5 : decode cX8_wouldBeBusy 5 = .ok (.pop, 1) := by decide +kernel
theorem dX8_wouldBeBusy_6 : decode cX8_wouldBeBusy 6 = .ok (.iload_n 2, 1) := by decide +kernel
theorem dX8_wouldBeBusy_7 : decode cX8_wouldBeBusy 7 = .ok (.iconst 0, 1) := by decide +kernel
theorem dX8_wouldBeBusy_8 : decode cX8_wouldBeBusy 8 = .ok (.sipush 999, 3) := by decide +kernel
theorem dX8_wouldBeBusy_11 : decode cX8_wouldBeBusy 11 = .ok (.invokestatic 31, 3) := by decide +kernel
theorem dX8_wouldBeBusy_14 : decode cX8_wouldBeBusy 14 = .ok (.ifCond .ne 13, 3) := by decide +kernel
theorem dX8_wouldBeBusy_17 : decode cX8_wouldBeBusy 17 = .ok (.new 35, 3) := by decide +kernel
theorem dX8_wouldBeBusy_20 : decode cX8_wouldBeBusy 20 = .ok (.dup, 1) := by decide +kernel
theorem dX8_wouldBeBusy_21 : decode cX8_wouldBeBusy 21 = .ok (.ldc 145, 2) := by decide +kernel
theorem dX8_wouldBeBusy_23 : decode cX8_wouldBeBusy 23 = .ok (.invokespecial 39, 3) := by decide +kernel
theorem dX8_wouldBeBusy_26 : decode cX8_wouldBeBusy 26 = .ok (.athrow, 1) := by decide +kernel
theorem dX8_wouldBeBusy_27 : decode cX8_wouldBeBusy 27 = .ok (.aload_n 0, 1) := by decide +kernel
theorem dX8_wouldBeBusy_28 : decode cX8_wouldBeBusy 28 = .ok (.getfield 28, 3) := by decide +kernel
theorem dX8_wouldBeBusy_31 : decode cX8_wouldBeBusy 31 = .ok (.aload_n 0, 1) := by decide +kernel
theorem dX8_wouldBeBusy_32 : decode cX8_wouldBeBusy 32 = .ok (.getfield 24, 3) := by decide +kernel
theorem dX8_wouldBeBusy_35 : decode cX8_wouldBeBusy 35 = .ok (.invokevirtual 296, 3) := by decide +kernel
theorem dX8_wouldBeBusy_38 : decode cX8_wouldBeBusy 38 = .ok (.aload_n 0, 1) := by decide +kernel
theorem dX8_wouldBeBusy_39 : decode cX8_wouldBeBusy 39 = .ok (.getfield 28, 3) := by decide +kernel
theorem dX8_wouldBeBusy_42 : decode cX8_wouldBeBusy 42 = .ok (.iload_n 2, 1) := by decide +kernel
theorem dX8_wouldBeBusy_43 : decode cX8_wouldBeBusy 43 = .ok (.invokevirtual 147, 3) := by decide +kernel
theorem dX8_wouldBeBusy_46 : decode cX8_wouldBeBusy 46 = .ok (.pop, 1) := by decide +kernel
theorem dX8_wouldBeBusy_47 : decode cX8_wouldBeBusy 47 = .ok (.aload_n 0, 1) := by decide +kernel
theorem dX8_wouldBeBusy_48 : decode cX8_wouldBeBusy 48 = .ok (.getfield 28, 3) := by decide +kernel
theorem dX8_wouldBeBusy_51 : decode cX8_wouldBeBusy 51 = .ok (.iload_n 1, 1) := by decide +kernel
theorem dX8_wouldBeBusy_52 : decode cX8_wouldBeBusy 52 = .ok (.invokevirtual 304, 3) := by decide +kernel
theorem dX8_wouldBeBusy_55 : decode cX8_wouldBeBusy 55 = .ok (.astore_n 3, 1) := by decide +kernel
theorem dX8_wouldBeBusy_56 : decode cX8_wouldBeBusy 56 = .ok (.aload_n 3, 1) := by decide +kernel
theorem dX8_wouldBeBusy_57 : decode cX8_wouldBeBusy 57 = .ok (.ifnonnull 7, 3) := by decide +kernel
theorem dX8_wouldBeBusy_60 : decode cX8_wouldBeBusy 60 = .ok (.iconst 0, 1) := by decide +kernel
theorem dX8_wouldBeBusy_61 : decode cX8_wouldBeBusy 61 = .ok (.goto 7, 3) := by decide +kernel
theorem dX8_wouldBeBusy_64 : decode cX8_wouldBeBusy 64 = .ok (.aload_n 3, 1) := by decide +kernel
theorem dX8_wouldBeBusy_65 : decode cX8_wouldBeBusy 65 = .ok (.getfield 232, 3) := by decide +kernel
theorem dX8_wouldBeBusy_68 : decode cX8_wouldBeBusy 68 = .ok (.ireturn, 1) := by decide +kernel
theorem dX8_digest_0 : decode cX8_digest 0 = .ok (.ldc2_w 307, 3) := by decide +kernel
theorem dX8_digest_3 : decode cX8_digest 3 = .ok (.lstore_n 1, 1) := by decide +kernel
theorem dX8_digest_4 : decode cX8_digest 4 = .ok (.lload_n 1, 1) := by decide +kernel
theorem dX8_digest_5 : decode cX8_digest 5 = .ok (.aload_n 0, 1) := by decide +kernel
theorem dX8_digest_6 : decode cX8_digest 6 = .ok (.invokevirtual 309, 3) := by decide +kernel
theorem dX8_digest_9 : decode cX8_digest 9 = .ok (.invokestatic 311, 3) := by decide +kernel
theorem dX8_digest_12 : decode cX8_digest 12 = .ok (.lstore_n 1, 1) := by decide +kernel
theorem dX8_digest_13 : decode cX8_digest 13 = .ok (.lload_n 1, 1) := by decide +kernel
theorem dX8_digest_14 : decode cX8_digest 14 = .ok (.aload_n 0, 1) := by decide +kernel
theorem dX8_digest_15 : decode cX8_digest 15 = .ok (.invokevirtual 315, 3) := by decide +kernel
theorem dX8_digest_18 : decode cX8_digest 18 = .ok (.invokestatic 311, 3) := by decide +kernel
theorem dX8_digest_21 : decode cX8_digest 21 = .ok (.lstore_n 1, 1) := by decide +kernel
theorem dX8_digest_22 : decode cX8_digest 22 = .ok (.lload_n 1, 1) := by decide +kernel
theorem dX8_digest_23 : decode cX8_digest 23 = .ok (.aload_n 0, 1) := by decide +kernel
theorem dX8_digest_24 : decode cX8_digest 24 = .ok (.invokevirtual 317, 3) := by decide +kernel
theorem dX8_digest_27 : decode cX8_digest 27 = .ok (.invokestatic 311, 3) := by decide +kernel
theorem dX8_digest_30 : decode cX8_digest 30 = .ok (.lstore_n 1, 1) := by decide +kernel
theorem dX8_digest_31 : decode cX8_digest 31 = .ok (.lload_n 1, 1) := by decide +kernel
theorem dX8_digest_32 : decode cX8_digest 32 = .ok (.aload_n 0, 1) := by decide +kernel
theorem dX8_digest_33 : decode cX8_digest 33 = .ok (.invokevirtual 320, 3) := by decide +kernel
theorem dX8_digest_36 : decode cX8_digest 36 = .ok (.invokestatic 311, 3) := by decide +kernel
theorem dX8_digest_39 : decode cX8_digest 39 = .ok (.lstore_n 1, 1) := by decide +kernel
theorem dX8_digest_40 : decode cX8_digest 40 = .ok (.lload_n 1, 1) := by decide +kernel
theorem dX8_digest_41 : decode cX8_digest 41 = .ok (.aload_n 0, 1) := by decide +kernel
theorem dX8_digest_42 : decode cX8_digest 42 = .ok (.invokevirtual 323, 3) := by decide +kernel
theorem dX8_digest_45 : decode cX8_digest 45 = .ok (.invokestatic 311, 3) := by decide +kernel
theorem dX8_digest_48 : decode cX8_digest 48 = .ok (.lstore_n 1, 1) := by decide +kernel
theorem dX8_digest_49 : decode cX8_digest 49 = .ok (.lload_n 1, 1) := by decide +kernel
theorem dX8_digest_50 : decode cX8_digest 50 = .ok (.aload_n 0, 1) := by decide +kernel
theorem dX8_digest_51 : decode cX8_digest 51 = .ok (.invokevirtual 326, 3) := by decide +kernel
theorem dX8_digest_54 : decode cX8_digest 54 = .ok (.invokestatic 311, 3) := by decide +kernel
theorem dX8_digest_57 : decode cX8_digest 57 = .ok (.lstore_n 1, 1) := by decide +kernel
theorem dX8_digest_58 : decode cX8_digest 58 = .ok (.aload_n 0, 1) := by decide +kernel
theorem dX8_digest_59 : decode cX8_digest 59 = .ok (.lload_n 1, 1) := by decide +kernel
theorem dX8_digest_60 : decode cX8_digest 60 = .ok (.invokevirtual 328, 3) := by decide +kernel
theorem dX8_digest_63 : decode cX8_digest 63 = .ok (.lstore_n 1, 1) := by decide +kernel
theorem dX8_digest_64 : decode cX8_digest 64 = .ok (.aload_n 0, 1) := by decide +kernel
theorem dX8_digest_65 : decode cX8_digest 65 = .ok (.lload_n 1, 1) := by decide +kernel
theorem dX8_digest_66 : decode cX8_digest 66 = .ok (.invokevirtual 332, 3) := by decide +kernel
theorem dX8_digest_69 : decode cX8_digest 69 = .ok (.lstore_n 1, 1) := by decide +kernel
theorem dX8_digest_70 : decode cX8_digest 70 = .ok (.aload_n 0, 1) := by decide +kernel
theorem dX8_digest_71 : decode cX8_digest 71 = .ok (.lload_n 1, 1) := by decide +kernel
theorem dX8_digest_72 : decode cX8_digest 72 = .ok (.invokevirtual 335, 3) := by decide +kernel
theorem dX8_digest_75 : decode cX8_digest 75 = .ok (.lstore_n 1, 1) := by decide +kernel
theorem dX8_digest_76 : decode cX8_digest 76 = .ok (.iconst 0, 1) := by decide +kernel
theorem dX8_digest_77 : decode cX8_digest 77 = .ok (.istore_n 3, 1) := by decide +kernel
theorem dX8_digest_78 : decode cX8_digest 78 = .ok (.iload_n 3, 1) := by decide +kernel
theorem dX8_digest_79 : decode cX8_digest 79 = .ok (.iconst 4, 1) := by decide +kernel
theorem dX8_digest_80 : decode cX8_digest 80 = .ok (.if_icmp .ge 19, 3) := by decide +kernel
theorem dX8_digest_83 : decode cX8_digest 83 = .ok (.lload_n 1, 1) := by decide +kernel
theorem dX8_digest_84 : decode cX8_digest 84 = .ok (.aload_n 0, 1) := by decide +kernel
theorem dX8_digest_85 : decode cX8_digest 85 = .ok (.iload_n 3, 1) := by decide +kernel
theorem dX8_digest_86 : decode cX8_digest 86 = .ok (.invokevirtual 338, 3) := by decide +kernel
theorem dX8_digest_89 : decode cX8_digest 89 = .ok (.invokestatic 311, 3) := by decide +kernel
theorem dX8_digest_92 : decode cX8_digest 92 = .ok (.lstore_n 1, 1) := by decide +kernel
theorem dX8_digest_93 : decode cX8_digest 93 = .ok (.iinc 3 1, 3) := by decide +kernel
theorem dX8_digest_96 : decode cX8_digest 96 = .ok (.goto (-18), 3) := by decide +kernel
theorem dX8_digest_99 : decode cX8_digest 99 = .ok (.aload_n 0, 1) := by decide +kernel
theorem dX8_digest_100 : decode cX8_digest 100 = .ok (.lload_n 1, 1) := by decide +kernel
theorem dX8_digest_101 : decode cX8_digest 101 = .ok (.invokevirtual 341, 3) := by decide +kernel
theorem dX8_digest_104 : decode cX8_digest 104 = .ok (.lreturn, 1) := by decide +kernel
theorem dX8_mix_0 : decode cX8_mix 0 = .ok (.lload_n 0, 1) := by decide +kernel
theorem dX8_mix_1 : decode cX8_mix 1 = .ok (.ldc2_w 344, 3) := by decide +kernel
theorem dX8_mix_4 : decode cX8_mix 4 = .ok (.lmul, 1) := by decide +kernel
theorem dX8_mix_5 : decode cX8_mix 5 = .ok (.iload_n 2, 1) := by decide +kernel
theorem dX8_mix_6 : decode cX8_mix 6 = .ok (.i2l, 1) := by decide +kernel
theorem dX8_mix_7 : decode cX8_mix 7 = .ok (.ladd, 1) := by decide +kernel
theorem dX8_mix_8 : decode cX8_mix 8 = .ok (.lreturn, 1) := by decide +kernel
theorem dX8_mixProcesses_0 : decode cX8_mixProcesses 0 = .ok (.iconst 0, 1) := by decide +kernel
theorem dX8_mixProcesses_1 : decode cX8_mixProcesses 1 = .ok (.istore_n 3, 1) := by decide +kernel
theorem dX8_mixProcesses_2 : decode cX8_mixProcesses 2 = .ok (.iload_n 3, 1) := by decide +kernel
theorem dX8_mixProcesses_3 : decode cX8_mixProcesses 3 = .ok (.aload_n 0, 1) := by decide +kernel
theorem dX8_mixProcesses_4 : decode cX8_mixProcesses 4 = .ok (.getfield 24, 3) := by decide +kernel
theorem dX8_mixProcesses_7 : decode cX8_mixProcesses 7 = .ok (.getfield 125, 3) := by decide +kernel
theorem dX8_mixProcesses_10 : decode cX8_mixProcesses 10 = .ok (.if_icmp .ge 105, 3) := by decide +kernel
theorem dX8_mixProcesses_13 : decode cX8_mixProcesses 13 = .ok (.lload_n 1, 1) := by decide +kernel
theorem dX8_mixProcesses_14 : decode cX8_mixProcesses 14 = .ok (.aload_n 0, 1) := by decide +kernel
theorem dX8_mixProcesses_15 : decode cX8_mixProcesses 15 = .ok (.iload_n 3, 1) := by decide +kernel
theorem dX8_mixProcesses_16 : decode cX8_mixProcesses 16 = .ok (.invokevirtual 346, 3) := by decide +kernel
theorem dX8_mixProcesses_19 : decode cX8_mixProcesses 19 = .ok (.invokestatic 311, 3) := by decide +kernel
theorem dX8_mixProcesses_22 : decode cX8_mixProcesses 22 = .ok (.lstore_n 1, 1) := by decide +kernel
theorem dX8_mixProcesses_23 : decode cX8_mixProcesses 23 = .ok (.lload_n 1, 1) := by decide +kernel
theorem dX8_mixProcesses_24 : decode cX8_mixProcesses 24 = .ok (.aload_n 0, 1) := by decide +kernel
theorem dX8_mixProcesses_25 : decode cX8_mixProcesses 25 = .ok (.iload_n 3, 1) := by decide +kernel
theorem dX8_mixProcesses_26 : decode cX8_mixProcesses 26 = .ok (.invokevirtual 349, 3) := by decide +kernel
theorem dX8_mixProcesses_29 : decode cX8_mixProcesses 29 = .ok (.invokestatic 311, 3) := by decide +kernel
theorem dX8_mixProcesses_32 : decode cX8_mixProcesses 32 = .ok (.lstore_n 1, 1) := by decide +kernel
theorem dX8_mixProcesses_33 : decode cX8_mixProcesses 33 = .ok (.lload_n 1, 1) := by decide +kernel
theorem dX8_mixProcesses_34 : decode cX8_mixProcesses 34 = .ok (.aload_n 0, 1) := by decide +kernel
theorem dX8_mixProcesses_35 : decode cX8_mixProcesses 35 = .ok (.iload_n 3, 1) := by decide +kernel
theorem dX8_mixProcesses_36 : decode cX8_mixProcesses 36 = .ok (.invokevirtual 352, 3) := by decide +kernel
theorem dX8_mixProcesses_39 : decode cX8_mixProcesses 39 = .ok (.invokestatic 311, 3) := by decide +kernel
theorem dX8_mixProcesses_42 : decode cX8_mixProcesses 42 = .ok (.lstore_n 1, 1) := by decide +kernel
theorem dX8_mixProcesses_43 : decode cX8_mixProcesses 43 = .ok (.lload_n 1, 1) := by decide +kernel
theorem dX8_mixProcesses_44 : decode cX8_mixProcesses 44 = .ok (.aload_n 0, 1) := by decide +kernel
theorem dX8_mixProcesses_45 : decode cX8_mixProcesses 45 = .ok (.iload_n 3, 1) := by decide +kernel
theorem dX8_mixProcesses_46 : decode cX8_mixProcesses 46 = .ok (.invokevirtual 355, 3) := by decide +kernel
theorem dX8_mixProcesses_49 : decode cX8_mixProcesses 49 = .ok (.invokestatic 311, 3) := by decide +kernel
theorem dX8_mixProcesses_52 : decode cX8_mixProcesses 52 = .ok (.lstore_n 1, 1) := by decide +kernel
theorem dX8_mixProcesses_53 : decode cX8_mixProcesses 53 = .ok (.lload_n 1, 1) := by decide +kernel
theorem dX8_mixProcesses_54 : decode cX8_mixProcesses 54 = .ok (.aload_n 0, 1) := by decide +kernel
theorem dX8_mixProcesses_55 : decode cX8_mixProcesses 55 = .ok (.iload_n 3, 1) := by decide +kernel
theorem dX8_mixProcesses_56 : decode cX8_mixProcesses 56 = .ok (.invokevirtual 358, 3) := by decide +kernel
theorem dX8_mixProcesses_59 : decode cX8_mixProcesses 59 = .ok (.invokestatic 311, 3) := by decide +kernel
theorem dX8_mixProcesses_62 : decode cX8_mixProcesses 62 = .ok (.lstore_n 1, 1) := by decide +kernel
theorem dX8_mixProcesses_63 : decode cX8_mixProcesses 63 = .ok (.lload_n 1, 1) := by decide +kernel
theorem dX8_mixProcesses_64 : decode cX8_mixProcesses 64 = .ok (.aload_n 0, 1) := by decide +kernel
theorem dX8_mixProcesses_65 : decode cX8_mixProcesses 65 = .ok (.iload_n 3, 1) := by decide +kernel
theorem dX8_mixProcesses_66 : decode cX8_mixProcesses 66 = .ok (.invokevirtual 361, 3) := by decide +kernel
theorem dX8_mixProcesses_69 : decode cX8_mixProcesses 69 = .ok (.invokestatic 311, 3) := by decide +kernel
theorem dX8_mixProcesses_72 : decode cX8_mixProcesses 72 = .ok (.lstore_n 1, 1) := by decide +kernel
theorem dX8_mixProcesses_73 : decode cX8_mixProcesses 73 = .ok (.iconst 0, 1) := by decide +kernel
theorem dX8_mixProcesses_74 : decode cX8_mixProcesses 74 = .ok (.istore 4, 2) := by decide +kernel
theorem dX8_mixProcesses_76 : decode cX8_mixProcesses 76 = .ok (.iload 4, 2) := by decide +kernel
theorem dX8_mixProcesses_78 : decode cX8_mixProcesses 78 = .ok (.aload_n 0, 1) := by decide +kernel
theorem dX8_mixProcesses_79 : decode cX8_mixProcesses 79 = .ok (.getfield 24, 3) := by decide +kernel
theorem dX8_mixProcesses_82 : decode cX8_mixProcesses 82 = .ok (.getfield 42, 3) := by decide +kernel
theorem dX8_mixProcesses_85 : decode cX8_mixProcesses 85 = .ok (.invokevirtual 45, 3) := by decide +kernel
theorem dX8_mixProcesses_88 : decode cX8_mixProcesses 88 = .ok (.if_icmp .ge 21, 3) := by decide +kernel
theorem dX8_mixProcesses_91 : decode cX8_mixProcesses 91 = .ok (.lload_n 1, 1) := by decide +kernel
theorem dX8_mixProcesses_92 : decode cX8_mixProcesses 92 = .ok (.aload_n 0, 1) := by decide +kernel
theorem dX8_mixProcesses_93 : decode cX8_mixProcesses 93 = .ok (.iload_n 3, 1) := by decide +kernel
theorem dX8_mixProcesses_94 : decode cX8_mixProcesses 94 = .ok (.iload 4, 2) := by decide +kernel
theorem dX8_mixProcesses_96 : decode cX8_mixProcesses 96 = .ok (.invokevirtual 364, 3) := by decide +kernel
theorem dX8_mixProcesses_99 : decode cX8_mixProcesses 99 = .ok (.invokestatic 311, 3) := by decide +kernel
theorem dX8_mixProcesses_102 : decode cX8_mixProcesses 102 = .ok (.lstore_n 1, 1) := by decide +kernel
theorem dX8_mixProcesses_103 : decode cX8_mixProcesses 103 = .ok (.iinc 4 1, 3) := by decide +kernel
theorem dX8_mixProcesses_106 : decode cX8_mixProcesses 106 = .ok (.goto (-30), 3) := by decide +kernel
theorem dX8_mixProcesses_109 : decode cX8_mixProcesses 109 = .ok (.iinc 3 1, 3) := by decide +kernel
theorem dX8_mixProcesses_112 : decode cX8_mixProcesses 112 = .ok (.goto (-110), 3) := by decide +kernel
theorem dX8_mixProcesses_115 : decode cX8_mixProcesses 115 = .ok (.lload_n 1, 1) := by decide +kernel
theorem dX8_mixProcesses_116 : decode cX8_mixProcesses 116 = .ok (.lreturn, 1) := by decide +kernel
theorem dX8_mixResources_0 : decode cX8_mixResources 0 = .ok (.iconst 0, 1) := by decide +kernel
theorem dX8_mixResources_1 : decode cX8_mixResources 1 = .ok (.istore_n 3, 1) := by decide +kernel
theorem dX8_mixResources_2 : decode cX8_mixResources 2 = .ok (.iload_n 3, 1) := by decide +kernel
theorem dX8_mixResources_3 : decode cX8_mixResources 3 = .ok (.aload_n 0, 1) := by decide +kernel
theorem dX8_mixResources_4 : decode cX8_mixResources 4 = .ok (.getfield 24, 3) := by decide +kernel
theorem dX8_mixResources_7 : decode cX8_mixResources 7 = .ok (.getfield 42, 3) := by decide +kernel
theorem dX8_mixResources_10 : decode cX8_mixResources 10 = .ok (.invokevirtual 45, 3) := by decide +kernel
theorem dX8_mixResources_13 : decode cX8_mixResources 13 = .ok (.if_icmp .ge 91, 3) := by decide +kernel
theorem dX8_mixResources_16 : decode cX8_mixResources 16 = .ok (.aload_n 0, 1) := by decide +kernel
theorem dX8_mixResources_17 : decode cX8_mixResources 17 = .ok (.iload_n 3, 1) := by decide +kernel
theorem dX8_mixResources_18 : decode cX8_mixResources 18 = .ok (.invokevirtual 367, 3) := by decide +kernel
theorem dX8_mixResources_21 : decode cX8_mixResources 21 = .ok (.istore 4, 2) := by decide +kernel
theorem dX8_mixResources_23 : decode cX8_mixResources 23 = .ok (.lload_n 1, 1) := by decide +kernel
theorem dX8_mixResources_24 : decode cX8_mixResources 24 = .ok (.aload_n 0, 1) := by decide +kernel
theorem dX8_mixResources_25 : decode cX8_mixResources 25 = .ok (.iload_n 3, 1) := by decide +kernel
theorem dX8_mixResources_26 : decode cX8_mixResources 26 = .ok (.invokevirtual 370, 3) := by decide +kernel
theorem dX8_mixResources_29 : decode cX8_mixResources 29 = .ok (.invokestatic 311, 3) := by decide +kernel
theorem dX8_mixResources_32 : decode cX8_mixResources 32 = .ok (.lstore_n 1, 1) := by decide +kernel
theorem dX8_mixResources_33 : decode cX8_mixResources 33 = .ok (.lload_n 1, 1) := by decide +kernel
theorem dX8_mixResources_34 : decode cX8_mixResources 34 = .ok (.iload 4, 2) := by decide +kernel
theorem dX8_mixResources_36 : decode cX8_mixResources 36 = .ok (.invokestatic 311, 3) := by decide +kernel
theorem dX8_mixResources_39 : decode cX8_mixResources 39 = .ok (.lstore_n 1, 1) := by decide +kernel
theorem dX8_mixResources_40 : decode cX8_mixResources 40 = .ok (.iconst 0, 1) := by decide +kernel
theorem dX8_mixResources_41 : decode cX8_mixResources 41 = .ok (.istore 5, 2) := by decide +kernel
theorem dX8_mixResources_43 : decode cX8_mixResources 43 = .ok (.iload 5, 2) := by decide +kernel
theorem dX8_mixResources_45 : decode cX8_mixResources 45 = .ok (.iload 4, 2) := by decide +kernel
theorem dX8_mixResources_47 : decode cX8_mixResources 47 = .ok (.if_icmp .ge 21, 3) := by decide +kernel
theorem dX8_mixResources_50 : decode cX8_mixResources 50 = .ok (.lload_n 1, 1) := by decide +kernel
theorem dX8_mixResources_51 : decode cX8_mixResources 51 = .ok (.aload_n 0, 1) := by decide +kernel
theorem dX8_mixResources_52 : decode cX8_mixResources 52 = .ok (.iload_n 3, 1) := by decide +kernel
theorem dX8_mixResources_53 : decode cX8_mixResources 53 = .ok (.iload 5, 2) := by decide +kernel
theorem dX8_mixResources_55 : decode cX8_mixResources 55 = .ok (.invokevirtual 373, 3) := by decide +kernel
theorem dX8_mixResources_58 : decode cX8_mixResources 58 = .ok (.invokestatic 311, 3) := by decide +kernel
theorem dX8_mixResources_61 : decode cX8_mixResources 61 = .ok (.lstore_n 1, 1) := by decide +kernel
theorem dX8_mixResources_62 : decode cX8_mixResources 62 = .ok (.iinc 5 1, 3) := by decide +kernel
theorem dX8_mixResources_65 : decode cX8_mixResources 65 = .ok (.goto (-22), 3) := by decide +kernel
theorem dX8_mixResources_68 : decode cX8_mixResources 68 = .ok (.lload_n 1, 1) := by decide +kernel
theorem dX8_mixResources_69 : decode cX8_mixResources 69 = .ok (.aload_n 0, 1) := by decide +kernel
theorem dX8_mixResources_70 : decode cX8_mixResources 70 = .ok (.iload_n 3, 1) := by decide +kernel
theorem dX8_mixResources_71 : decode cX8_mixResources 71 = .ok (.invokevirtual 376, 3) := by decide +kernel
theorem dX8_mixResources_74 : decode cX8_mixResources 74 = .ok (.invokestatic 311, 3) := by decide +kernel
theorem dX8_mixResources_77 : decode cX8_mixResources 77 = .ok (.lstore_n 1, 1) := by decide +kernel
theorem dX8_mixResources_78 : decode cX8_mixResources 78 = .ok (.lload_n 1, 1) := by decide +kernel
theorem dX8_mixResources_79 : decode cX8_mixResources 79 = .ok (.aload_n 0, 1) := by decide +kernel
theorem dX8_mixResources_80 : decode cX8_mixResources 80 = .ok (.iload_n 3, 1) := by decide +kernel
theorem dX8_mixResources_81 : decode cX8_mixResources 81 = .ok (.invokevirtual 379, 3) := by decide +kernel
theorem dX8_mixResources_84 : decode cX8_mixResources 84 = .ok (.invokestatic 311, 3) := by decide +kernel
theorem dX8_mixResources_87 : decode cX8_mixResources 87 = .ok (.lstore_n 1, 1) := by decide +kernel
theorem dX8_mixResources_88 : decode cX8_mixResources 88 = .ok (.lload_n 1, 1) := by decide +kernel
theorem dX8_mixResources_89 : decode cX8_mixResources 89 = .ok (.aload_n 0, 1) := by decide +kernel
theorem dX8_mixResources_90 : decode cX8_mixResources 90 = .ok (.iload_n 3, 1) := by decide +kernel
theorem dX8_mixResources_91 : decode cX8_mixResources 91 = .ok (.invokevirtual 382, 3) := by decide +kernel
theorem dX8_mixResources_94 : decode cX8_mixResources 94 = .ok (.invokestatic 311, 3) := by decide +kernel
theorem dX8_mixResources_97 : decode cX8_mixResources 97 = .ok (.lstore_n 1, 1) := by decide +kernel
theorem dX8_mixResources_98 : decode cX8_mixResources 98 = .ok (.iinc 3 1, 3) := by decide +kernel
theorem dX8_mixResources_101 : decode cX8_mixResources 101 = .ok (.goto (-99), 3) := by decide +kernel
theorem dX8_mixResources_104 : decode cX8_mixResources 104 = .ok (.lload_n 1, 1) := by decide +kernel
theorem dX8_mixResources_105 : decode cX8_mixResources 105 = .ok (.lreturn, 1) := by decide +kernel
theorem dX8_mixStores_0 : decode cX8_mixStores 0 = .ok (.iconst 0, 1) := by decide +kernel
theorem dX8_mixStores_1 : decode cX8_mixStores 1 = .ok (.istore_n 3, 1) := by decide +kernel
theorem dX8_mixStores_2 : decode cX8_mixStores 2 = .ok (.iload_n 3, 1) := by decide +kernel
theorem dX8_mixStores_3 : decode cX8_mixStores 3 = .ok (.aload_n 0, 1) := by decide +kernel
theorem dX8_mixStores_4 : decode cX8_mixStores 4 = .ok (.getfield 24, 3) := by decide +kernel
theorem dX8_mixStores_7 : decode cX8_mixStores 7 = .ok (.getfield 65, 3) := by decide +kernel
theorem dX8_mixStores_10 : decode cX8_mixStores 10 = .ok (.invokevirtual 45, 3) := by decide +kernel
theorem dX8_mixStores_13 : decode cX8_mixStores 13 = .ok (.if_icmp .ge 51, 3) := by decide +kernel
theorem dX8_mixStores_16 : decode cX8_mixStores 16 = .ok (.lload_n 1, 1) := by decide +kernel
theorem dX8_mixStores_17 : decode cX8_mixStores 17 = .ok (.aload_n 0, 1) := by decide +kernel
theorem dX8_mixStores_18 : decode cX8_mixStores 18 = .ok (.iload_n 3, 1) := by decide +kernel
theorem dX8_mixStores_19 : decode cX8_mixStores 19 = .ok (.invokevirtual 385, 3) := by decide +kernel
theorem dX8_mixStores_22 : decode cX8_mixStores 22 = .ok (.invokestatic 311, 3) := by decide +kernel
theorem dX8_mixStores_25 : decode cX8_mixStores 25 = .ok (.lstore_n 1, 1) := by decide +kernel
theorem dX8_mixStores_26 : decode cX8_mixStores 26 = .ok (.lload_n 1, 1) := by decide +kernel
theorem dX8_mixStores_27 : decode cX8_mixStores 27 = .ok (.aload_n 0, 1) := by decide +kernel
theorem dX8_mixStores_28 : decode cX8_mixStores 28 = .ok (.iload_n 3, 1) := by decide +kernel
theorem dX8_mixStores_29 : decode cX8_mixStores 29 = .ok (.iconst 0, 1) := by decide +kernel
theorem dX8_mixStores_30 : decode cX8_mixStores 30 = .ok (.invokevirtual 388, 3) := by decide +kernel
theorem dX8_mixStores_33 : decode cX8_mixStores 33 = .ok (.invokestatic 311, 3) := by decide +kernel
theorem dX8_mixStores_36 : decode cX8_mixStores 36 = .ok (.lstore_n 1, 1) := by decide +kernel
theorem dX8_mixStores_37 : decode cX8_mixStores 37 = .ok (.lload_n 1, 1) := by decide +kernel
theorem dX8_mixStores_38 : decode cX8_mixStores 38 = .ok (.aload_n 0, 1) := by decide +kernel
theorem dX8_mixStores_39 : decode cX8_mixStores 39 = .ok (.iload_n 3, 1) := by decide +kernel
theorem dX8_mixStores_40 : decode cX8_mixStores 40 = .ok (.iconst 1, 1) := by decide +kernel
theorem dX8_mixStores_41 : decode cX8_mixStores 41 = .ok (.invokevirtual 388, 3) := by decide +kernel
theorem dX8_mixStores_44 : decode cX8_mixStores 44 = .ok (.invokestatic 311, 3) := by decide +kernel
theorem dX8_mixStores_47 : decode cX8_mixStores 47 = .ok (.lstore_n 1, 1) := by decide +kernel
theorem dX8_mixStores_48 : decode cX8_mixStores 48 = .ok (.lload_n 1, 1) := by decide +kernel
theorem dX8_mixStores_49 : decode cX8_mixStores 49 = .ok (.aload_n 0, 1) := by decide +kernel
theorem dX8_mixStores_50 : decode cX8_mixStores 50 = .ok (.iload_n 3, 1) := by decide +kernel
theorem dX8_mixStores_51 : decode cX8_mixStores 51 = .ok (.invokevirtual 392, 3) := by decide +kernel
theorem dX8_mixStores_54 : decode cX8_mixStores 54 = .ok (.invokestatic 311, 3) := by decide +kernel
theorem dX8_mixStores_57 : decode cX8_mixStores 57 = .ok (.lstore_n 1, 1) := by decide +kernel
theorem dX8_mixStores_58 : decode cX8_mixStores 58 = .ok (.iinc 3 1, 3) := by decide +kernel
theorem dX8_mixStores_61 : decode cX8_mixStores 61 = .ok (.goto (-59), 3) := by decide +kernel
theorem dX8_mixStores_64 : decode cX8_mixStores 64 = .ok (.lload_n 1, 1) := by decide +kernel
theorem dX8_mixStores_65 : decode cX8_mixStores 65 = .ok (.lreturn, 1) := by decide +kernel
theorem dX8_mixTallies_0 : decode cX8_mixTallies 0 = .ok (.iconst 0, 1) := by decide +kernel
theorem dX8_mixTallies_1 : decode cX8_mixTallies 1 = .ok (.istore_n 3, 1) := by decide +kernel
theorem dX8_mixTallies_2 : decode cX8_mixTallies 2 = .ok (.iload_n 3, 1) := by decide +kernel
theorem dX8_mixTallies_3 : decode cX8_mixTallies 3 = .ok (.aload_n 0, 1) := by decide +kernel
theorem dX8_mixTallies_4 : decode cX8_mixTallies 4 = .ok (.getfield 16, 3) := by decide +kernel
theorem dX8_mixTallies_7 : decode cX8_mixTallies 7 = .ok (.invokevirtual 45, 3) := by decide +kernel
theorem dX8_mixTallies_10 : decode cX8_mixTallies 10 = .ok (.if_icmp .ge 88, 3) := by decide +kernel
theorem dX8_mixTallies_13 : decode cX8_mixTallies 13 = .ok (.lload_n 1, 1) := by decide +kernel
theorem dX8_mixTallies_14 : decode cX8_mixTallies 14 = .ok (.aload_n 0, 1) := by decide +kernel
theorem dX8_mixTallies_15 : decode cX8_mixTallies 15 = .ok (.iload_n 3, 1) := by decide +kernel
theorem dX8_mixTallies_16 : decode cX8_mixTallies 16 = .ok (.invokevirtual 395, 3) := by decide +kernel
theorem dX8_mixTallies_19 : decode cX8_mixTallies 19 = .ok (.invokestatic 311, 3) := by decide +kernel
theorem dX8_mixTallies_22 : decode cX8_mixTallies 22 = .ok (.lstore_n 1, 1) := by decide +kernel
theorem dX8_mixTallies_23 : decode cX8_mixTallies 23 = .ok (.iconst 0, 1) := by decide +kernel
theorem dX8_mixTallies_24 : decode cX8_mixTallies 24 = .ok (.istore 4, 2) := by decide +kernel
theorem dX8_mixTallies_26 : decode cX8_mixTallies 26 = .ok (.iload 4, 2) := by decide +kernel
theorem dX8_mixTallies_28 : decode cX8_mixTallies 28 = .ok (.iconst 3, 1) := by decide +kernel
theorem dX8_mixTallies_29 : decode cX8_mixTallies 29 = .ok (.if_icmp .gt 21, 3) := by decide +kernel
theorem dX8_mixTallies_32 : decode cX8_mixTallies 32 = .ok (.lload_n 1, 1) := by decide +kernel
theorem dX8_mixTallies_33 : decode cX8_mixTallies 33 = .ok (.aload_n 0, 1) := by decide +kernel
theorem dX8_mixTallies_34 : decode cX8_mixTallies 34 = .ok (.iload_n 3, 1) := by decide +kernel
theorem dX8_mixTallies_35 : decode cX8_mixTallies 35 = .ok (.iload 4, 2) := by decide +kernel
theorem dX8_mixTallies_37 : decode cX8_mixTallies 37 = .ok (.invokevirtual 398, 3) := by decide +kernel
theorem dX8_mixTallies_40 : decode cX8_mixTallies 40 = .ok (.invokestatic 311, 3) := by decide +kernel
theorem dX8_mixTallies_43 : decode cX8_mixTallies 43 = .ok (.lstore_n 1, 1) := by decide +kernel
theorem dX8_mixTallies_44 : decode cX8_mixTallies 44 = .ok (.iinc 4 1, 3) := by decide +kernel
theorem dX8_mixTallies_47 : decode cX8_mixTallies 47 = .ok (.goto (-21), 3) := by decide +kernel
theorem dX8_mixTallies_50 : decode cX8_mixTallies 50 = .ok (.aload_n 0, 1) := by decide +kernel
theorem dX8_mixTallies_51 : decode cX8_mixTallies 51 = .ok (.iload_n 3, 1) := by decide +kernel
theorem dX8_mixTallies_52 : decode cX8_mixTallies 52 = .ok (.invokevirtual 401, 3) := by decide +kernel
theorem dX8_mixTallies_55 : decode cX8_mixTallies 55 = .ok (.istore 4, 2) := by decide +kernel
theorem dX8_mixTallies_57 : decode cX8_mixTallies 57 = .ok (.lload_n 1, 1) := by decide +kernel
theorem dX8_mixTallies_58 : decode cX8_mixTallies 58 = .ok (.iload 4, 2) := by decide +kernel
theorem dX8_mixTallies_60 : decode cX8_mixTallies 60 = .ok (.invokestatic 311, 3) := by decide +kernel
theorem dX8_mixTallies_63 : decode cX8_mixTallies 63 = .ok (.lstore_n 1, 1) := by decide +kernel
theorem dX8_mixTallies_64 : decode cX8_mixTallies 64 = .ok (.iconst 0, 1) := by decide +kernel
theorem dX8_mixTallies_65 : decode cX8_mixTallies 65 = .ok (.istore 5, 2) := by decide +kernel
theorem dX8_mixTallies_67 : decode cX8_mixTallies 67 = .ok (.iload 5, 2) := by decide +kernel
theorem dX8_mixTallies_69 : decode cX8_mixTallies 69 = .ok (.iload 4, 2) := by decide +kernel
theorem dX8_mixTallies_71 : decode cX8_mixTallies 71 = .ok (.if_icmp .ge 21, 3) := by decide +kernel
theorem dX8_mixTallies_74 : decode cX8_mixTallies 74 = .ok (.lload_n 1, 1) := by decide +kernel
theorem dX8_mixTallies_75 : decode cX8_mixTallies 75 = .ok (.aload_n 0, 1) := by decide +kernel
theorem dX8_mixTallies_76 : decode cX8_mixTallies 76 = .ok (.iload_n 3, 1) := by decide +kernel
theorem dX8_mixTallies_77 : decode cX8_mixTallies 77 = .ok (.iload 5, 2) := by decide +kernel
theorem dX8_mixTallies_79 : decode cX8_mixTallies 79 = .ok (.invokevirtual 404, 3) := by decide +kernel
theorem dX8_mixTallies_82 : decode cX8_mixTallies 82 = .ok (.invokestatic 311, 3) := by decide +kernel
theorem dX8_mixTallies_85 : decode cX8_mixTallies 85 = .ok (.lstore_n 1, 1) := by decide +kernel
theorem dX8_mixTallies_86 : decode cX8_mixTallies 86 = .ok (.iinc 5 1, 3) := by decide +kernel
theorem dX8_mixTallies_89 : decode cX8_mixTallies 89 = .ok (.goto (-22), 3) := by decide +kernel
theorem dX8_mixTallies_92 : decode cX8_mixTallies 92 = .ok (.iinc 3 1, 3) := by decide +kernel
theorem dX8_mixTallies_95 : decode cX8_mixTallies 95 = .ok (.goto (-93), 3) := by decide +kernel
theorem dX8_mixTallies_98 : decode cX8_mixTallies 98 = .ok (.lload_n 1, 1) := by decide +kernel
theorem dX8_mixTallies_99 : decode cX8_mixTallies 99 = .ok (.lreturn, 1) := by decide +kernel
theorem dX8_isIn_0 : decode cX8_isIn 0 = .ok (.iload_n 0, 1) := by decide +kernel
theorem dX8_isIn_1 : decode cX8_isIn 1 = .ok (.iload_n 1, 1) := by decide +kernel
theorem dX8_isIn_2 : decode cX8_isIn 2 = .ok (.if_icmp .lt 12, 3) := by decide +kernel
theorem dX8_isIn_5 : decode cX8_isIn 5 = .ok (.iload_n 0, 1) := by decide +kernel
theorem dX8_isIn_6 : decode cX8_isIn 6 = .ok (.iload_n 2, 1) := by decide +kernel
theorem dX8_isIn_7 : decode cX8_isIn 7 = .ok (.if_icmp .gt 7, 3) := by decide +kernel
theorem dX8_isIn_10 : decode cX8_isIn 10 = .ok (.iconst 1, 1) := by decide +kernel
theorem dX8_isIn_11 : decode cX8_isIn 11 = .ok (.goto 4, 3) := by decide +kernel
theorem dX8_isIn_14 : decode cX8_isIn 14 = .ok (.iconst 0, 1) := by decide +kernel
theorem dX8_isIn_15 : decode cX8_isIn 15 = .ok (.ireturn, 1) := by decide +kernel
theorem dX8_isSignal_0 : decode cX8_isSignal 0 = .ok (.iload_n 0, 1) := by decide +kernel
theorem dX8_isSignal_1 : decode cX8_isSignal 1 = .ok (.iconst 0, 1) := by decide +kernel
theorem dX8_isSignal_2 : decode cX8_isSignal 2 = .ok (.iconst 3, 1) := by decide +kernel
theorem dX8_isSignal_3 : decode cX8_isSignal 3 = .ok (.invokestatic 31, 3) := by decide +kernel
theorem dX8_isSignal_6 : decode cX8_isSignal 6 = .ok (.ireturn, 1) := by decide +kernel
theorem dX8_isInstruction_0 : decode cX8_isInstruction 0 = .ok (.iload_n 1, 1) := by decide +kernel
theorem dX8_isInstruction_1 : decode cX8_isInstruction 1 = .ok (.tableswitch 236 0 13 #[71, 97, 97, 124, 124, 151, 151, 156, 183, 185, 202, 183, 228, 124], 71) := by decide +kernel
theorem dX8_isInstruction_72 : decode cX8_isInstruction 72 = .ok (.iload_n 2, 1) := by decide +kernel
theorem dX8_isInstruction_73 : decode cX8_isInstruction 73 = .ok (.iconst 0, 1) := by decide +kernel
theorem dX8_isInstruction_74 : decode cX8_isInstruction 74 = .ok (.bipush 99, 2) := by decide +kernel
theorem dX8_isInstruction_76 : decode cX8_isInstruction 76 = .ok (.invokestatic 31, 3) := by decide +kernel
theorem dX8_isInstruction_79 : decode cX8_isInstruction 79 = .ok (.ifCond .eq 17, 3) := by decide +kernel
theorem dX8_isInstruction_82 : decode cX8_isInstruction 82 = .ok (.iload_n 3, 1) := by decide +kernel
theorem dX8_isInstruction_83 : decode cX8_isInstruction 83 = .ok (.iconst 0, 1) := by decide +kernel
theorem dX8_isInstruction_84 : decode cX8_isInstruction 84 = .ok (.bipush 50, 2) := by decide +kernel
theorem dX8_isInstruction_86 : decode cX8_isInstruction 86 = .ok (.invokestatic 31, 3) := by decide +kernel
theorem dX8_isInstruction_89 : decode cX8_isInstruction 89 = .ok (.ifCond .eq 7, 3) := by decide +kernel
theorem dX8_isInstruction_92 : decode cX8_isInstruction 92 = .ok (.iconst 1, 1) := by decide +kernel
theorem dX8_isInstruction_93 : decode cX8_isInstruction 93 = .ok (.goto 4, 3) := by decide +kernel
theorem dX8_isInstruction_96 : decode cX8_isInstruction 96 = .ok (.iconst 0, 1) := by decide +kernel
theorem dX8_isInstruction_97 : decode cX8_isInstruction 97 = .ok (.ireturn, 1) := by decide +kernel
theorem dX8_isInstruction_98 : decode cX8_isInstruction 98 = .ok (.aload_n 0, 1) := by decide +kernel
theorem dX8_isInstruction_99 : decode cX8_isInstruction 99 = .ok (.getfield 24, 3) := by decide +kernel
theorem dX8_isInstruction_102 : decode cX8_isInstruction 102 = .ok (.iload_n 2, 1) := by decide +kernel
theorem dX8_isInstruction_103 : decode cX8_isInstruction 103 = .ok (.invokevirtual 304, 3) := by decide +kernel
theorem dX8_isInstruction_106 : decode cX8_isInstruction 106 = .ok (.ifnull 17, 3) := by decide +kernel
theorem dX8_isInstruction_109 : decode cX8_isInstruction 109 = .ok (.iload_n 3, 1) := by decide +kernel
theorem dX8_isInstruction_110 : decode cX8_isInstruction 110 = .ok (.iconst 1, 1) := by decide +kernel
theorem dX8_isInstruction_111 : decode cX8_isInstruction 111 = .ok (.bipush 9, 2) := by decide +kernel
theorem dX8_isInstruction_113 : decode cX8_isInstruction 113 = .ok (.invokestatic 31, 3) := by decide +kernel
theorem dX8_isInstruction_116 : decode cX8_isInstruction 116 = .ok (.ifCond .eq 7, 3) := by decide +kernel
theorem dX8_isInstruction_119 : decode cX8_isInstruction 119 = .ok (.iconst 1, 1) := by decide +kernel
theorem dX8_isInstruction_120 : decode cX8_isInstruction 120 = .ok (.goto 4, 3) := by decide +kernel
theorem dX8_isInstruction_123 : decode cX8_isInstruction 123 = .ok (.iconst 0, 1) := by decide +kernel
theorem dX8_isInstruction_124 : decode cX8_isInstruction 124 = .ok (.ireturn, 1) := by decide +kernel
theorem dX8_isInstruction_125 : decode cX8_isInstruction 125 = .ok (.aload_n 0, 1) := by decide +kernel
theorem dX8_isInstruction_126 : decode cX8_isInstruction 126 = .ok (.getfield 24, 3) := by decide +kernel
theorem dX8_isInstruction_129 : decode cX8_isInstruction 129 = .ok (.iload_n 2, 1) := by decide +kernel
theorem dX8_isInstruction_130 : decode cX8_isInstruction 130 = .ok (.invokevirtual 407, 3) := by decide +kernel
theorem dX8_isInstruction_133 : decode cX8_isInstruction 133 = .ok (.ifnull 17, 3) := by decide +kernel
theorem dX8_isInstruction_136 : decode cX8_isInstruction 136 = .ok (.iload_n 3, 1) := by decide +kernel
theorem dX8_isInstruction_137 : decode cX8_isInstruction 137 = .ok (.iconst 1, 1) := by decide +kernel
theorem dX8_isInstruction_138 : decode cX8_isInstruction 138 = .ok (.bipush 99, 2) := by decide +kernel
theorem dX8_isInstruction_140 : decode cX8_isInstruction 140 = .ok (.invokestatic 31, 3) := by decide +kernel
theorem dX8_isInstruction_143 : decode cX8_isInstruction 143 = .ok (.ifCond .eq 7, 3) := by decide +kernel
theorem dX8_isInstruction_146 : decode cX8_isInstruction 146 = .ok (.iconst 1, 1) := by decide +kernel
theorem dX8_isInstruction_147 : decode cX8_isInstruction 147 = .ok (.goto 4, 3) := by decide +kernel
theorem dX8_isInstruction_150 : decode cX8_isInstruction 150 = .ok (.iconst 0, 1) := by decide +kernel
theorem dX8_isInstruction_151 : decode cX8_isInstruction 151 = .ok (.ireturn, 1) := by decide +kernel
theorem dX8_isInstruction_152 : decode cX8_isInstruction 152 = .ok (.iload_n 2, 1) := by decide +kernel
theorem dX8_isInstruction_153 : decode cX8_isInstruction 153 = .ok (.invokestatic 255, 3) := by decide +kernel
theorem dX8_isInstruction_156 : decode cX8_isInstruction 156 = .ok (.ireturn, 1) := by decide +kernel
theorem dX8_isInstruction_157 : decode cX8_isInstruction 157 = .ok (.aload_n 0, 1) := by decide +kernel
theorem dX8_isInstruction_158 : decode cX8_isInstruction 158 = .ok (.getfield 24, 3) := by decide +kernel
theorem dX8_isInstruction_161 : decode cX8_isInstruction 161 = .ok (.iload_n 2, 1) := by decide +kernel
theorem dX8_isInstruction_162 : decode cX8_isInstruction 162 = .ok (.invokevirtual 410, 3) := by decide +kernel
theorem dX8_isInstruction_165 : decode cX8_isInstruction 165 = .ok (.ifnull 17, 3) := by decide +kernel
theorem dX8_isInstruction_168 : decode cX8_isInstruction 168 = .ok (.iload_n 3, 1) := by decide +kernel
theorem dX8_isInstruction_169 : decode cX8_isInstruction 169 = .ok (.iconst 0, 1) := by decide +kernel
theorem dX8_isInstruction_170 : decode cX8_isInstruction 170 = .ok (.bipush 9, 2) := by decide +kernel
theorem dX8_isInstruction_172 : decode cX8_isInstruction 172 = .ok (.invokestatic 31, 3) := by decide +kernel
theorem dX8_isInstruction_175 : decode cX8_isInstruction 175 = .ok (.ifCond .eq 7, 3) := by decide +kernel
theorem dX8_isInstruction_178 : decode cX8_isInstruction 178 = .ok (.iconst 1, 1) := by decide +kernel
theorem dX8_isInstruction_179 : decode cX8_isInstruction 179 = .ok (.goto 4, 3) := by decide +kernel
theorem dX8_isInstruction_182 : decode cX8_isInstruction 182 = .ok (.iconst 0, 1) := by decide +kernel
theorem dX8_isInstruction_183 : decode cX8_isInstruction 183 = .ok (.ireturn, 1) := by decide +kernel
theorem dX8_isInstruction_184 : decode cX8_isInstruction 184 = .ok (.iconst 1, 1) := by decide +kernel
theorem dX8_isInstruction_185 : decode cX8_isInstruction 185 = .ok (.ireturn, 1) := by decide +kernel
theorem dX8_isInstruction_186 : decode cX8_isInstruction 186 = .ok (.aload_n 0, 1) := by decide +kernel
theorem dX8_isInstruction_187 : decode cX8_isInstruction 187 = .ok (.getfield 24, 3) := by decide +kernel
theorem dX8_isInstruction_190 : decode cX8_isInstruction 190 = .ok (.iload_n 2, 1) := by decide +kernel
theorem dX8_isInstruction_191 : decode cX8_isInstruction 191 = .ok (.invokevirtual 413, 3) := by decide +kernel
theorem dX8_isInstruction_194 : decode cX8_isInstruction 194 = .ok (.ifnull 7, 3) := by decide +kernel
theorem dX8_isInstruction_197 : decode cX8_isInstruction 197 = .ok (.iconst 1, 1) := by decide +kernel
theorem dX8_isInstruction_198 : decode cX8_isInstruction 198 = .ok (.goto 4, 3) := by decide +kernel
theorem dX8_isInstruction_201 : decode cX8_isInstruction 201 = .ok (.iconst 0, 1) := by decide +kernel
theorem dX8_isInstruction_202 : decode cX8_isInstruction 202 = .ok (.ireturn, 1) := by decide +kernel
theorem dX8_isInstruction_203 : decode cX8_isInstruction 203 = .ok (.iload_n 2, 1) := by decide +kernel
theorem dX8_isInstruction_204 : decode cX8_isInstruction 204 = .ok (.iconst 0, 1) := by decide +kernel
theorem dX8_isInstruction_205 : decode cX8_isInstruction 205 = .ok (.bipush 15, 2) := by decide +kernel
theorem dX8_isInstruction_207 : decode cX8_isInstruction 207 = .ok (.invokestatic 31, 3) := by decide +kernel
theorem dX8_isInstruction_210 : decode cX8_isInstruction 210 = .ok (.ifCond .eq 17, 3) := by decide +kernel
theorem dX8_isInstruction_213 : decode cX8_isInstruction 213 = .ok (.iload_n 3, 1) := by decide +kernel
theorem dX8_isInstruction_214 : decode cX8_isInstruction 214 = .ok (.iconst 0, 1) := by decide +kernel
theorem dX8_isInstruction_215 : decode cX8_isInstruction 215 = .ok (.bipush 20, 2) := by decide +kernel
theorem dX8_isInstruction_217 : decode cX8_isInstruction 217 = .ok (.invokestatic 31, 3) := by decide +kernel
theorem dX8_isInstruction_220 : decode cX8_isInstruction 220 = .ok (.ifCond .eq 7, 3) := by decide +kernel
theorem dX8_isInstruction_223 : decode cX8_isInstruction 223 = .ok (.iconst 1, 1) := by decide +kernel
theorem dX8_isInstruction_224 : decode cX8_isInstruction 224 = .ok (.goto 4, 3) := by decide +kernel
theorem dX8_isInstruction_227 : decode cX8_isInstruction 227 = .ok (.iconst 0, 1) := by decide +kernel
theorem dX8_isInstruction_228 : decode cX8_isInstruction 228 = .ok (.ireturn, 1) := by decide +kernel
theorem dX8_isInstruction_229 : decode cX8_isInstruction 229 = .ok (.iload_n 2, 1) := by decide +kernel
theorem dX8_isInstruction_230 : decode cX8_isInstruction 230 = .ok (.iconst 0, 1) := by decide +kernel
theorem dX8_isInstruction_231 : decode cX8_isInstruction 231 = .ok (.bipush 9, 2) := by decide +kernel
theorem dX8_isInstruction_233 : decode cX8_isInstruction 233 = .ok (.invokestatic 31, 3) := by decide +kernel
theorem dX8_isInstruction_236 : decode cX8_isInstruction 236 = .ok (.ireturn, 1) := by decide +kernel
theorem dX8_isInstruction_237 : decode cX8_isInstruction 237 = .ok (.iconst 0, 1) := by decide +kernel
theorem dX8_isInstruction_238 : decode cX8_isInstruction 238 = .ok (.ireturn, 1) := by decide +kernel
theorem dX8_demandResource_0 : decode cX8_demandResource 0 = .ok (.aload_n 0, 1) := by decide +kernel
theorem dX8_demandResource_1 : decode cX8_demandResource 1 = .ok (.getfield 24, 3) := by decide +kernel
theorem dX8_demandResource_4 : decode cX8_demandResource 4 = .ok (.iload_n 1, 1) := by decide +kernel
theorem dX8_demandResource_5 : decode cX8_demandResource 5 = .ok (.invokevirtual 304, 3) := by decide +kernel
theorem dX8_demandResource_8 : decode cX8_demandResource 8 = .ok (.astore_n 2, 1) := by decide +kernel
theorem dX8_demandResource_9 : decode cX8_demandResource 9 = .ok (.aload_n 2, 1) := by decide +kernel
theorem dX8_demandResource_10 : decode cX8_demandResource 10 = .ok (.ifnonnull 14, 3) := by decide +kernel
theorem dX8_demandResource_13 : decode cX8_demandResource 13 = .ok (.new 227, 3) := by decide +kernel
theorem dX8_demandResource_16 : decode cX8_demandResource 16 = .ok (.dup, 1) := by decide +kernel
theorem dX8_demandResource_17 : decode cX8_demandResource 17 = .ok (.ldc_w 416, 3) := by decide +kernel
theorem dX8_demandResource_20 : decode cX8_demandResource 20 = .ok (.invokespecial 231, 3) := by decide +kernel
theorem dX8_demandResource_23 : decode cX8_demandResource 23 = .ok (.athrow, 1) := by decide +kernel
theorem dX8_demandResource_24 : decode cX8_demandResource 24 = .ok (.aload_n 2, 1) := by decide +kernel
theorem dX8_demandResource_25 : decode cX8_demandResource 25 = .ok (.areturn, 1) := by decide +kernel
theorem dX8_demandStore_0 : decode cX8_demandStore 0 = .ok (.aload_n 0, 1) := by decide +kernel
theorem dX8_demandStore_1 : decode cX8_demandStore 1 = .ok (.getfield 24, 3) := by decide +kernel
theorem dX8_demandStore_4 : decode cX8_demandStore 4 = .ok (.iload_n 1, 1) := by decide +kernel
theorem dX8_demandStore_5 : decode cX8_demandStore 5 = .ok (.invokevirtual 407, 3) := by decide +kernel
theorem dX8_demandStore_8 : decode cX8_demandStore 8 = .ok (.astore_n 2, 1) := by decide +kernel
theorem dX8_demandStore_9 : decode cX8_demandStore 9 = .ok (.aload_n 2, 1) := by decide +kernel
theorem dX8_demandStore_10 : decode cX8_demandStore 10 = .ok (.ifnonnull 14, 3) := by decide +kernel
theorem dX8_demandStore_13 : decode cX8_demandStore 13 = .ok (.new 227, 3) := by decide +kernel
theorem dX8_demandStore_16 : decode cX8_demandStore 16 = .ok (.dup, 1) := by decide +kernel
theorem dX8_demandStore_17 : decode cX8_demandStore 17 = .ok (.ldc_w 418, 3) := by decide +kernel
theorem dX8_demandStore_20 : decode cX8_demandStore 20 = .ok (.invokespecial 231, 3) := by decide +kernel
theorem dX8_demandStore_23 : decode cX8_demandStore 23 = .ok (.athrow, 1) := by decide +kernel
theorem dX8_demandStore_24 : decode cX8_demandStore 24 = .ok (.aload_n 2, 1) := by decide +kernel
theorem dX8_demandStore_25 : decode cX8_demandStore 25 = .ok (.areturn, 1) := by decide +kernel
theorem dX8_demandTally_0 : decode cX8_demandTally 0 = .ok (.aload_n 0, 1) := by decide +kernel
theorem dX8_demandTally_1 : decode cX8_demandTally 1 = .ok (.getfield 24, 3) := by decide +kernel
theorem dX8_demandTally_4 : decode cX8_demandTally 4 = .ok (.iload_n 1, 1) := by decide +kernel
theorem dX8_demandTally_5 : decode cX8_demandTally 5 = .ok (.invokevirtual 413, 3) := by decide +kernel
theorem dX8_demandTally_8 : decode cX8_demandTally 8 = .ok (.astore_n 2, 1) := by decide +kernel
theorem dX8_demandTally_9 : decode cX8_demandTally 9 = .ok (.aload_n 2, 1) := by decide +kernel
theorem dX8_demandTally_10 : decode cX8_demandTally 10 = .ok (.ifnonnull 14, 3) := by decide +kernel
theorem dX8_demandTally_13 : decode cX8_demandTally 13 = .ok (.new 227, 3) := by decide +kernel
theorem dX8_demandTally_16 : decode cX8_demandTally 16 = .ok (.dup, 1) := by decide +kernel
theorem dX8_demandTally_17 : decode cX8_demandTally 17 = .ok (.ldc_w 420, 3) := by decide +kernel
theorem dX8_demandTally_20 : decode cX8_demandTally 20 = .ok (.invokespecial 231, 3) := by decide +kernel
theorem dX8_demandTally_23 : decode cX8_demandTally 23 = .ok (.athrow, 1) := by decide +kernel
theorem dX8_demandTally_24 : decode cX8_demandTally 24 = .ok (.aload_n 2, 1) := by decide +kernel
theorem dX8_demandTally_25 : decode cX8_demandTally 25 = .ok (.areturn, 1) := by decide +kernel
theorem dX8_demandScript_0 : decode cX8_demandScript 0 = .ok (.aload_n 0, 1) := by decide +kernel
theorem dX8_demandScript_1 : decode cX8_demandScript 1 = .ok (.getfield 24, 3) := by decide +kernel
theorem dX8_demandScript_4 : decode cX8_demandScript 4 = .ok (.iload_n 1, 1) := by decide +kernel
theorem dX8_demandScript_5 : decode cX8_demandScript 5 = .ok (.invokevirtual 410, 3) := by decide +kernel
theorem dX8_demandScript_8 : decode cX8_demandScript 8 = .ok (.astore_n 2, 1) := by decide +kernel
theorem dX8_demandScript_9 : decode cX8_demandScript 9 = .ok (.aload_n 2, 1) := by decide +kernel
