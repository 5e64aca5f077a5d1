theorem dX7_script_12 : decode cX7_script 12 = .ok (.if_icmp .ge 17, 3) := by decide +kernel
theorem dX7_script_15 : decode cX7_script 15 = .ok (.aload_n 0, 1) := by decide +kernel
theorem dX7_script_16 : decode cX7_script 16 = .ok (.getfield 27, 3) := by decide +kernel
theorem dX7_script_19 : decode cX7_script 19 = .ok (.iload_n 1, 1) := by decide +kernel
theorem dX7_script_20 : decode cX7_script 20 = .ok (.invokevirtual 60, 3) := by decide +kernel
theorem dX7_script_23 : decode cX7_script 23 = .ok (.checkcast 76, 3) := by decide +kernel
theorem dX7_script_26 : decode cX7_script 26 = .ok (.goto 4, 3) := by decide +kernel
theorem dX7_script_29 : decode cX7_script 29 = .ok (.aconst_null, 1) := by decide +kernel
theorem dX7_script_30 : decode cX7_script 30 = .ok (.areturn, 1) := by decide +kernel
theorem dX7_process_0 : decode cX7_process 0 = .ok (.iload_n 1, 1) := by decide +kernel
theorem dX7_process_1 : decode cX7_process 1 = .ok (.ifCond .lt 29, 3) := by decide +kernel
theorem dX7_process_4 : decode cX7_process 4 = .ok (.iload_n 1, 1) := by decide +kernel
theorem dX7_process_5 : decode cX7_process 5 = .ok (.aload_n 0, 1) := by decide +kernel
theorem dX7_process_6 : decode cX7_process 6 = .ok (.getfield 36, 3) := by decide +kernel
theorem dX7_process_9 : decode cX7_process 9 = .ok (.if_icmp .ge 21, 3) := by decide +kernel
theorem dX7_process_12 : decode cX7_process 12 = .ok (.iload_n 1, 1) := by decide +kernel
theorem dX7_process_13 : decode cX7_process 13 = .ok (.aload_n 0, 1) := by decide +kernel
theorem dX7_process_14 : decode cX7_process 14 = .ok (.getfield 23, 3) := by decide +kernel
theorem dX7_process_17 : decode cX7_process 17 = .ok (.arraylength, 1) := by decide +kernel
theorem dX7_process_18 : decode cX7_process 18 = .ok (.if_icmp .ge 12, 3) := by decide +kernel
theorem dX7_process_21 : decode cX7_process 21 = .ok (.aload_n 0, 1) := by decide +kernel
theorem dX7_process_22 : decode cX7_process 22 = .ok (.getfield 23, 3) := by decide +kernel
theorem dX7_process_25 : decode cX7_process 25 = .ok (.iload_n 1, 1) := by decide +kernel
theorem dX7_process_26 : decode cX7_process 26 = .ok (.aaload, 1) := by decide +kernel
theorem dX7_process_27 : decode cX7_process 27 = .ok (.goto 4, 3) := by decide +kernel
theorem dX7_process_30 : decode cX7_process 30 = .ok (.aconst_null, 1) := by decide +kernel
theorem dX7_process_31 : decode cX7_process 31 = .ok (.areturn, 1) := by decide +kernel
theorem dX7_hasStarted_0 : decode cX7_hasStarted 0 = .ok (.aload_n 0, 1) := by decide +kernel
theorem dX7_hasStarted_1 : decode cX7_hasStarted 1 = .ok (.getfield 23, 3) := by decide +kernel
theorem dX7_hasStarted_4 : decode cX7_hasStarted 4 = .ok (.astore_n 2, 1) := by decide +kernel
theorem dX7_hasStarted_5 : decode cX7_hasStarted 5 = .ok (.aload_n 2, 1) := by decide +kernel
theorem dX7_hasStarted_6 : decode cX7_hasStarted 6 = .ok (.arraylength, 1) := by decide +kernel
theorem dX7_hasStarted_7 : decode cX7_hasStarted 7 = .ok (.istore_n 3, 1) := by decide +kernel
theorem dX7_hasStarted_8 : decode cX7_hasStarted 8 = .ok (.iconst 0, 1) := by decide +kernel
theorem dX7_hasStarted_9 : decode cX7_hasStarted 9 = .ok (.istore 4, 2) := by decide +kernel
theorem dX7_hasStarted_11 : decode cX7_hasStarted 11 = .ok (.iload 4, 2) := by decide +kernel
theorem dX7_hasStarted_13 : decode cX7_hasStarted 13 = .ok (.iload_n 3, 1) := by decide +kernel
theorem dX7_hasStarted_14 : decode cX7_hasStarted 14 = .ok (.if_icmp .ge 26, 3) := by decide +kernel
theorem dX7_hasStarted_17 : decode cX7_hasStarted 17 = .ok (.aload_n 2, 1) := by decide +kernel
theorem dX7_hasStarted_18 : decode cX7_hasStarted 18 = .ok (.iload 4, 2) := by decide +kernel
theorem dX7_hasStarted_20 : decode cX7_hasStarted 20 = .ok (.aaload, 1) := by decide +kernel
theorem dX7_hasStarted_21 : decode cX7_hasStarted 21 = .ok (.astore 5, 2) := by decide +kernel
theorem dX7_hasStarted_23 : decode cX7_hasStarted 23 = .ok (.aload 5, 2) := by decide +kernel
theorem dX7_hasStarted_25 : decode cX7_hasStarted 25 = .ok (.getfield 78, 3) := by decide +kernel
theorem dX7_hasStarted_28 : decode cX7_hasStarted 28 = .ok (.aload_n 1, 1) := by decide +kernel
theorem dX7_hasStarted_29 : decode cX7_hasStarted 29 = .ok (.if_acmp .ne 5, 3) := by decide +kernel
theorem dX7_hasStarted_32 : decode cX7_hasStarted 32 = .ok (.iconst 1, 1) := by decide +kernel
theorem dX7_hasStarted_33 : decode cX7_hasStarted 33 = .ok (.ireturn, 1) := by decide +kernel
theorem dX7_hasStarted_34 : decode cX7_hasStarted 34 = .ok (.iinc 4 1, 3) := by decide +kernel
theorem dX7_hasStarted_37 : decode cX7_hasStarted 37 = .ok (.goto (-26), 3) := by decide +kernel
theorem dX7_hasStarted_40 : decode cX7_hasStarted 40 = .ok (.iconst 0, 1) := by decide +kernel
theorem dX7_hasStarted_41 : decode cX7_hasStarted 41 = .ok (.ireturn, 1) := by decide +kernel
theorem dX7_begin_0 : decode cX7_begin 0 = .ok (.aload_n 0, 1) := by decide +kernel
theorem dX7_begin_1 : decode cX7_begin 1 = .ok (.getfield 36, 3) := by decide +kernel
theorem dX7_begin_4 : decode cX7_begin 4 = .ok (.ifCond .lt 15, 3) := by decide +kernel
theorem dX7_begin_7 : decode cX7_begin 7 = .ok (.aload_n 0, 1) := by decide +kernel
theorem dX7_begin_8 : decode cX7_begin 8 = .ok (.getfield 36, 3) := by decide +kernel
theorem dX7_begin_11 : decode cX7_begin 11 = .ok (.aload_n 0, 1) := by decide +kernel
theorem dX7_begin_12 : decode cX7_begin 12 = .ok (.getfield 23, 3) := by decide +kernel
theorem dX7_begin_15 : decode cX7_begin 15 = .ok (.arraylength, 1) := by decide +kernel
theorem dX7_begin_16 : decode cX7_begin 16 = .ok (.if_icmp .lt 4, 3) := by decide +kernel
theorem dX7_begin_19 : decode cX7_begin 19 = .ok (.return_, 1) := by decide +kernel
theorem dX7_begin_20 : decode cX7_begin 20 = .ok (.aload_n 0, 1) := by decide +kernel
theorem dX7_begin_21 : decode cX7_begin 21 = .ok (.getfield 23, 3) := by decide +kernel
theorem dX7_begin_24 : decode cX7_begin 24 = .ok (.aload_n 0, 1) := by decide +kernel
theorem dX7_begin_25 : decode cX7_begin 25 = .ok (.getfield 36, 3) := by decide +kernel
theorem dX7_begin_28 : decode cX7_begin 28 = .ok (.aaload, 1) := by decide +kernel
theorem dX7_begin_29 : decode cX7_begin 29 = .ok (.astore 4, 2) := by decide +kernel
theorem dX7_begin_31 : decode cX7_begin 31 = .ok (.aload_n 0, 1) := by decide +kernel
theorem dX7_begin_32 : decode cX7_begin 32 = .ok (.dup, 1) := by decide +kernel
theorem dX7_begin_33 : decode cX7_begin 33 = .ok (.getfield 36, 3) := by decide +kernel
theorem dX7_begin_36 : decode cX7_begin 36 = .ok (.iconst 1, 1) := by decide +kernel
theorem dX7_begin_37 : decode cX7_begin 37 = .ok (.iadd, 1) := by decide +kernel
theorem dX7_begin_38 : decode cX7_begin 38 = .ok (.putfield 36, 3) := by decide +kernel
theorem dX7_begin_41 : decode cX7_begin 41 = .ok (.aload 4, 2) := by decide +kernel
theorem dX7_begin_43 : decode cX7_begin 43 = .ok (.aload_n 1, 1) := by decide +kernel
theorem dX7_begin_44 : decode cX7_begin 44 = .ok (.putfield 78, 3) := by decide +kernel
theorem dX7_begin_47 : decode cX7_begin 47 = .ok (.aload 4, 2) := by decide +kernel
theorem dX7_begin_49 : decode cX7_begin 49 = .ok (.iload_n 2, 1) := by decide +kernel
theorem dX7_begin_50 : decode cX7_begin 50 = .ok (.putfield 82, 3) := by decide +kernel
theorem dX7_begin_53 : decode cX7_begin 53 = .ok (.aload 4, 2) := by decide +kernel
theorem dX7_begin_55 : decode cX7_begin 55 = .ok (.aload_n 0, 1) := by decide +kernel
theorem dX7_begin_56 : decode cX7_begin 56 = .ok (.getfield 40, 3) := by decide +kernel
theorem dX7_begin_59 : decode cX7_begin 59 = .ok (.putfield 85, 3) := by decide +kernel
theorem dX7_begin_62 : decode cX7_begin 62 = .ok (.aload_n 0, 1) := by decide +kernel
theorem dX7_begin_63 : decode cX7_begin 63 = .ok (.aload 4, 2) := by decide +kernel
theorem dX7_begin_65 : decode cX7_begin 65 = .ok (.iconst 0, 1) := by decide +kernel
theorem dX7_begin_66 : decode cX7_begin 66 = .ok (.iload_n 3, 1) := by decide +kernel
theorem dX7_begin_67 : decode cX7_begin 67 = .ok (.invokevirtual 88, 3) := by decide +kernel
theorem dX7_begin_70 : decode cX7_begin 70 = .ok (.return_, 1) := by decide +kernel
theorem dX7_schedule_0 : decode cX7_schedule 0 = .ok (.aload_n 0, 1) := by decide +kernel
theorem dX7_schedule_1 : decode cX7_schedule 1 = .ok (.dup, 1) := by decide +kernel
theorem dX7_schedule_2 : decode cX7_schedule 2 = .ok (.getfield 49, 3) := by decide +kernel
theorem dX7_schedule_5 : decode cX7_schedule 5 = .ok (.iconst 1, 1) := by decide +kernel
theorem dX7_schedule_6 : decode cX7_schedule 6 = .ok (.iadd, 1) := by decide +kernel
theorem dX7_schedule_7 : decode cX7_schedule 7 = .ok (.putfield 49, 3) := by decide +kernel
theorem dX7_schedule_10 : decode cX7_schedule 10 = .ok (.aload_n 1, 1) := by decide +kernel
theorem dX7_schedule_11 : decode cX7_schedule 11 = .ok (.iload_n 2, 1) := by decide +kernel
theorem dX7_schedule_12 : decode cX7_schedule 12 = .ok (.putfield 92, 3) := by decide +kernel
theorem dX7_schedule_15 : decode cX7_schedule 15 = .ok (.aload_n 1, 1) := by decide +kernel
theorem dX7_schedule_16 : decode cX7_schedule 16 = .ok (.aload_n 0, 1) := by decide +kernel
theorem dX7_schedule_17 : decode cX7_schedule 17 = .ok (.getfield 40, 3) := by decide +kernel
theorem dX7_schedule_20 : decode cX7_schedule 20 = .ok (.iload_n 3, 1) := by decide +kernel
theorem dX7_schedule_21 : decode cX7_schedule 21 = .ok (.iadd, 1) := by decide +kernel
theorem dX7_schedule_22 : decode cX7_schedule 22 = .ok (.putfield 95, 3) := by decide +kernel
theorem dX7_schedule_25 : decode cX7_schedule 25 = .ok (.aload_n 1, 1) := by decide +kernel
theorem dX7_schedule_26 : decode cX7_schedule 26 = .ok (.aload_n 0, 1) := by decide +kernel
theorem dX7_schedule_27 : decode cX7_schedule 27 = .ok (.getfield 49, 3) := by decide +kernel
theorem dX7_schedule_30 : decode cX7_schedule 30 = .ok (.putfield 98, 3) := by decide +kernel
theorem dX7_schedule_33 : decode cX7_schedule 33 = .ok (.return_, 1) := by decide +kernel
theorem dX7_interruptOne_0 : decode cX7_interruptOne 0 = .ok (.aload_n 1, 1) := by decide +kernel
theorem dX7_interruptOne_1 : decode cX7_interruptOne 1 = .ok (.getfield 92, 3) := by decide +kernel
theorem dX7_interruptOne_4 : decode cX7_interruptOne 4 = .ok (.iconst 1, 1) := by decide +kernel
theorem dX7_interruptOne_5 : decode cX7_interruptOne 5 = .ok (.if_icmp .ne 16, 3) := by decide +kernel
theorem dX7_interruptOne_8 : decode cX7_interruptOne 8 = .ok (.aload_n 1, 1) := by decide +kernel
theorem dX7_interruptOne_9 : decode cX7_interruptOne 9 = .ok (.aload_n 1, 1) := by decide +kernel
theorem dX7_interruptOne_10 : decode cX7_interruptOne 10 = .ok (.getfield 95, 3) := by decide +kernel
theorem dX7_interruptOne_13 : decode cX7_interruptOne 13 = .ok (.aload_n 0, 1) := by decide +kernel
theorem dX7_interruptOne_14 : decode cX7_interruptOne 14 = .ok (.getfield 40, 3) := by decide +kernel
theorem dX7_interruptOne_17 : decode cX7_interruptOne 17 = .ok (.isub, 1) := by decide +kernel
theorem dX7_interruptOne_18 : decode cX7_interruptOne 18 = .ok (.putfield 101, 3) := by decide +kernel
theorem dX7_interruptOne_21 : decode cX7_interruptOne 21 = .ok (.aload_n 1, 1) := by decide +kernel
theorem dX7_interruptOne_22 : decode cX7_interruptOne 22 = .ok (.iconst (-1), 1) := by decide +kernel
theorem dX7_interruptOne_23 : decode cX7_interruptOne 23 = .ok (.putfield 95, 3) := by decide +kernel
theorem dX7_interruptOne_26 : decode cX7_interruptOne 26 = .ok (.aload_n 0, 1) := by decide +kernel
theorem dX7_interruptOne_27 : decode cX7_interruptOne 27 = .ok (.aload_n 1, 1) := by decide +kernel
theorem dX7_interruptOne_28 : decode cX7_interruptOne 28 = .ok (.invokevirtual 104, 3) := by decide +kernel
theorem dX7_interruptOne_31 : decode cX7_interruptOne 31 = .ok (.aload_n 1, 1) := by decide +kernel
theorem dX7_interruptOne_32 : decode cX7_interruptOne 32 = .ok (.getfield 78, 3) := by decide +kernel
theorem dX7_interruptOne_35 : decode cX7_interruptOne 35 = .ok (.ifnull 25, 3) := by decide +kernel
theorem dX7_interruptOne_38 : decode cX7_interruptOne 38 = .ok (.aload_n 1, 1) := by decide +kernel
theorem dX7_interruptOne_39 : decode cX7_interruptOne 39 = .ok (.getfield 78, 3) := by decide +kernel
theorem dX7_interruptOne_42 : decode cX7_interruptOne 42 = .ok (.getfield 107, 3) := by decide +kernel
theorem dX7_interruptOne_45 : decode cX7_interruptOne 45 = .ok (.iconst (-1), 1) := by decide +kernel
theorem dX7_interruptOne_46 : decode cX7_interruptOne 46 = .ok (.if_icmp .eq 14, 3) := by decide +kernel
theorem dX7_interruptOne_49 : decode cX7_interruptOne 49 = .ok (.aload_n 1, 1) := by decide +kernel
theorem dX7_interruptOne_50 : decode cX7_interruptOne 50 = .ok (.aload_n 1, 1) := by decide +kernel
theorem dX7_interruptOne_51 : decode cX7_interruptOne 51 = .ok (.getfield 78, 3) := by decide +kernel
theorem dX7_interruptOne_54 : decode cX7_interruptOne 54 = .ok (.getfield 107, 3) := by decide +kernel
theorem dX7_interruptOne_57 : decode cX7_interruptOne 57 = .ok (.putfield 110, 3) := by decide +kernel
theorem dX7_interruptOne_60 : decode cX7_interruptOne 60 = .ok (.aload_n 0, 1) := by decide +kernel
theorem dX7_interruptOne_61 : decode cX7_interruptOne 61 = .ok (.aload_n 1, 1) := by decide +kernel
theorem dX7_interruptOne_62 : decode cX7_interruptOne 62 = .ok (.iconst 0, 1) := by decide +kernel
theorem dX7_interruptOne_63 : decode cX7_interruptOne 63 = .ok (.iconst 0, 1) := by decide +kernel
theorem dX7_interruptOne_64 : decode cX7_interruptOne 64 = .ok (.invokevirtual 88, 3) := by decide +kernel
theorem dX7_interruptOne_67 : decode cX7_interruptOne 67 = .ok (.return_, 1) := by decide +kernel
theorem dX7_finish_0 : decode cX7_finish 0 = .ok (.aload_n 1, 1) := by decide +kernel
theorem dX7_finish_1 : decode cX7_finish 1 = .ok (.iload_n 2, 1) := by decide +kernel
theorem dX7_finish_2 : decode cX7_finish 2 = .ok (.putfield 92, 3) := by decide +kernel
theorem dX7_finish_5 : decode cX7_finish 5 = .ok (.aload_n 1, 1) := by decide +kernel
theorem dX7_finish_6 : decode cX7_finish 6 = .ok (.iconst (-1), 1) := by decide +kernel
theorem dX7_finish_7 : decode cX7_finish 7 = .ok (.putfield 95, 3) := by decide +kernel
theorem dX7_finish_10 : decode cX7_finish 10 = .ok (.aload_n 0, 1) := by decide +kernel
theorem dX7_finish_11 : decode cX7_finish 11 = .ok (.aload_n 1, 1) := by decide +kernel
theorem dX7_finish_12 : decode cX7_finish 12 = .ok (.invokevirtual 104, 3) := by decide +kernel
theorem dX7_finish_15 : decode cX7_finish 15 = .ok (.iconst 0, 1) := by decide +kernel
theorem dX7_finish_16 : decode cX7_finish 16 = .ok (.istore_n 3, 1) := by decide +kernel
theorem dX7_finish_17 : decode cX7_finish 17 = .ok (.iload_n 3, 1) := by decide +kernel
theorem dX7_finish_18 : decode cX7_finish 18 = .ok (.aload_n 0, 1) := by decide +kernel
theorem dX7_finish_19 : decode cX7_finish 19 = .ok (.getfield 12, 3) := by decide +kernel
theorem dX7_finish_22 : decode cX7_finish 22 = .ok (.invokevirtual 56, 3) := by decide +kernel
theorem dX7_finish_25 : decode cX7_finish 25 = .ok (.if_icmp .ge 27, 3) := by decide +kernel
theorem dX7_finish_28 : decode cX7_finish 28 = .ok (.aload_n 0, 1) := by decide +kernel
theorem dX7_finish_29 : decode cX7_finish 29 = .ok (.aload_n 1, 1) := by decide +kernel
theorem dX7_finish_30 : decode cX7_finish 30 = .ok (.aload_n 0, 1) := by decide +kernel
theorem dX7_finish_31 : decode cX7_finish 31 = .ok (.getfield 12, 3) := by decide +kernel
theorem dX7_finish_34 : decode cX7_finish 34 = .ok (.iload_n 3, 1) := by decide +kernel
theorem dX7_finish_35 : decode cX7_finish 35 = .ok (.invokevirtual 60, 3) := by decide +kernel
theorem dX7_finish_38 : decode cX7_finish 38 = .ok (.checkcast 64, 3) := by decide +kernel
theorem dX7_finish_41 : decode cX7_finish 41 = .ok (.bipush 9, 2) := by decide +kernel
theorem dX7_finish_43 : decode cX7_finish 43 = .ok (.invokevirtual 113, 3) := by decide +kernel
theorem dX7_finish_46 : decode cX7_finish 46 = .ok (.iinc 3 1, 3) := by decide +kernel
theorem dX7_finish_49 : decode cX7_finish 49 = .ok (.goto (-32), 3) := by decide +kernel
theorem dX7_finish_52 : decode cX7_finish 52 = .ok (.return_, 1) := by decide +kernel
theorem dX7_countEvents_0 : decode cX7_countEvents 0 = .ok (.iconst 0, 1) := by decide +kernel
theorem dX7_countEvents_1 : decode cX7_countEvents 1 = .ok (.istore_n 1, 1) := by decide +kernel
theorem dX7_countEvents_2 : decode cX7_countEvents 2 = .ok (.aload_n 0, 1) := by decide +kernel
theorem dX7_countEvents_3 : decode cX7_countEvents 3 = .ok (.getfield 23, 3) := by decide +kernel
theorem dX7_countEvents_6 : decode cX7_countEvents 6 = .ok (.astore_n 2, 1) := by decide +kernel
theorem dX7_countEvents_7 : decode cX7_countEvents 7 = .ok (.aload_n 2, 1) := by decide +kernel
theorem dX7_countEvents_8 : decode cX7_countEvents 8 = .ok (.arraylength, 1) := by decide +kernel
theorem dX7_countEvents_9 : decode cX7_countEvents 9 = .ok (.istore_n 3, 1) := by decide +kernel
theorem dX7_countEvents_10 : decode cX7_countEvents 10 = .ok (.iconst 0, 1) := by decide +kernel
theorem dX7_countEvents_11 : decode cX7_countEvents 11 = .ok (.istore 4, 2) := by decide +kernel
theorem dX7_countEvents_13 : decode cX7_countEvents 13 = .ok (.iload 4, 2) := by decide +kernel
theorem dX7_countEvents_15 : decode cX7_countEvents 15 = .ok (.iload_n 3, 1) := by decide +kernel
theorem dX7_countEvents_16 : decode cX7_countEvents 16 = .ok (.if_icmp .ge 27, 3) := by decide +kernel
theorem dX7_countEvents_19 : decode cX7_countEvents 19 = .ok (.aload_n 2, 1) := by decide +kernel
theorem dX7_countEvents_20 : decode cX7_countEvents 20 = .ok (.iload 4, 2) := by decide +kernel
theorem dX7_countEvents_22 : decode cX7_countEvents 22 = .ok (.aaload, 1) := by decide +kernel
theorem dX7_countEvents_23 : decode cX7_countEvents 23 = .ok (.astore 5, 2) := by decide +kernel
theorem dX7_countEvents_25 : decode cX7_countEvents 25 = .ok (.aload 5, 2) := by decide +kernel
theorem dX7_countEvents_27 : decode cX7_countEvents 27 = .ok (.getfield 95, 3) := by decide +kernel
theorem dX7_countEvents_30 : decode cX7_countEvents 30 = .ok (.iconst (-1), 1) := by decide +kernel
theorem dX7_countEvents_31 : decode cX7_countEvents 31 = .ok (.if_icmp .eq 6, 3) := by decide +kernel
theorem dX7_countEvents_34 : decode cX7_countEvents 34 = .ok (.iinc 1 1, 3) := by decide +kernel
theorem dX7_countEvents_37 : decode cX7_countEvents 37 = .ok (.iinc 4 1, 3) := by decide +kernel
theorem dX7_countEvents_40 : decode cX7_countEvents 40 = .ok (.goto (-27), 3) := by decide +kernel
theorem dX7_countEvents_43 : decode cX7_countEvents 43 = .ok (.iload_n 1, 1) := by decide +kernel
theorem dX7_countEvents_44 : decode cX7_countEvents 44 = .ok (.ireturn, 1) := by decide +kernel
theorem dX7_nextToGo_0 : decode cX7_nextToGo 0 = .ok (.aconst_null, 1) := by decide +kernel
theorem dX7_nextToGo_1 : decode cX7_nextToGo 1 = .ok (.astore_n 1, 1) := by decide +kernel
theorem dX7_nextToGo_2 : decode cX7_nextToGo 2 = .ok (.aload_n 0, 1) := by decide +kernel
theorem dX7_nextToGo_3 : decode cX7_nextToGo 3 = .ok (.getfield 23, 3) := by decide +kernel
theorem dX7_nextToGo_6 : decode cX7_nextToGo 6 = .ok (.astore_n 2, 1) := by decide +kernel
theorem dX7_nextToGo_7 : decode cX7_nextToGo 7 = .ok (.aload_n 2, 1) := by decide +kernel
theorem dX7_nextToGo_8 : decode cX7_nextToGo 8 = .ok (.arraylength, 1) := by decide +kernel
theorem dX7_nextToGo_9 : decode cX7_nextToGo 9 = .ok (.istore_n 3, 1) := by decide +kernel
theorem dX7_nextToGo_10 : decode cX7_nextToGo 10 = .ok (.iconst 0, 1) := by decide +kernel
theorem dX7_nextToGo_11 : decode cX7_nextToGo 11 = .ok (.istore 4, 2) := by decide +kernel
theorem dX7_nextToGo_13 : decode cX7_nextToGo 13 = .ok (.iload 4, 2) := by decide +kernel
theorem dX7_nextToGo_15 : decode cX7_nextToGo 15 = .ok (.iload_n 3, 1) := by decide +kernel
theorem dX7_nextToGo_16 : decode cX7_nextToGo 16 = .ok (.if_icmp .ge 40, 3) := by decide +kernel
theorem dX7_nextToGo_19 : decode cX7_nextToGo 19 = .ok (.aload_n 2, 1) := by decide +kernel
theorem dX7_nextToGo_20 : decode cX7_nextToGo 20 = .ok (.iload 4, 2) := by decide +kernel
theorem dX7_nextToGo_22 : decode cX7_nextToGo 22 = .ok (.aaload, 1) := by decide +kernel
theorem dX7_nextToGo_23 : decode cX7_nextToGo 23 = .ok (.astore 5, 2) := by decide +kernel
theorem dX7_nextToGo_25 : decode cX7_nextToGo 25 = .ok (.aload 5, 2) := by decide +kernel
theorem dX7_nextToGo_27 : decode cX7_nextToGo 27 = .ok (.getfield 95, 3) := by decide +kernel
theorem dX7_nextToGo_30 : decode cX7_nextToGo 30 = .ok (.iconst (-1), 1) := by decide +kernel
theorem dX7_nextToGo_31 : decode cX7_nextToGo 31 = .ok (.if_icmp .eq 19, 3) := by decide +kernel
theorem dX7_nextToGo_34 : decode cX7_nextToGo 34 = .ok (.aload_n 1, 1) := by decide +kernel
theorem dX7_nextToGo_35 : decode cX7_nextToGo 35 = .ok (.ifnull 12, 3) := by decide +kernel
theorem dX7_nextToGo_38 : decode cX7_nextToGo 38 = .ok (.aload 5, 2) := by decide +kernel
theorem dX7_nextToGo_40 : decode cX7_nextToGo 40 = .ok (.aload_n 1, 1) := by decide +kernel
theorem dX7_nextToGo_41 : decode cX7_nextToGo 41 = .ok (.invokevirtual 117, 3) := by decide +kernel
theorem dX7_nextToGo_44 : decode cX7_nextToGo 44 = .ok (.ifCond .eq 6, 3) := by decide +kernel
theorem dX7_nextToGo_47 : decode cX7_nextToGo 47 = .ok (.aload 5, 2) := by decide +kernel
theorem dX7_nextToGo_49 : decode cX7_nextToGo 49 = .ok (.astore_n 1, 1) := by decide +kernel
theorem dX7_nextToGo_50 : decode cX7_nextToGo 50 = .ok (.iinc 4 1, 3) := by decide +kernel
theorem dX7_nextToGo_53 : decode cX7_nextToGo 53 = .ok (.goto (-40), 3) := by decide +kernel
theorem dX7_nextToGo_56 : decode cX7_nextToGo 56 = .ok (.aload_n 1, 1) := by decide +kernel
theorem dX7_nextToGo_57 : decode cX7_nextToGo 57 = .ok (.areturn, 1) := by decide +kernel
theorem dX7_hasEventBy_0 : decode cX7_hasEventBy 0 = .ok (.aload_n 0, 1) := by decide +kernel
theorem dX7_hasEventBy_1 : decode cX7_hasEventBy 1 = .ok (.invokevirtual 121, 3) := by decide +kernel
theorem dX7_hasEventBy_4 : decode cX7_hasEventBy 4 = .ok (.astore_n 2, 1) := by decide +kernel
theorem dX7_hasEventBy_5 : decode cX7_hasEventBy 5 = .ok (.aload_n 2, 1) := by decide +kernel
theorem dX7_hasEventBy_6 : decode cX7_hasEventBy 6 = .ok (.ifnull 15, 3) := by decide +kernel
theorem dX7_hasEventBy_9 : decode cX7_hasEventBy 9 = .ok (.aload_n 2, 1) := by decide +kernel
theorem dX7_hasEventBy_10 : decode cX7_hasEventBy 10 = .ok (.getfield 95, 3) := by decide +kernel
theorem dX7_hasEventBy_13 : decode cX7_hasEventBy 13 = .ok (.iload_n 1, 1) := by decide +kernel
theorem dX7_hasEventBy_14 : decode cX7_hasEventBy 14 = .ok (.if_icmp .gt 7, 3) := by decide +kernel
theorem dX7_hasEventBy_17 : decode cX7_hasEventBy 17 = .ok (.iconst 1, 1) := by decide +kernel
theorem dX7_hasEventBy_18 : decode cX7_hasEventBy 18 = .ok (.goto 4, 3) := by decide +kernel
theorem dX7_hasEventBy_21 : decode cX7_hasEventBy 21 = .ok (.iconst 0, 1) := by decide +kernel
theorem dX7_hasEventBy_22 : decode cX7_hasEventBy 22 = .ok (.ireturn, 1) := by decide +kernel
theorem dX7_goTo_0 : decode cX7_goTo 0 = .ok (.iload_n 1, 1) := by decide +kernel
theorem dX7_goTo_1 : decode cX7_goTo 1 = .ok (.aload_n 0, 1) := by decide +kernel
theorem dX7_goTo_2 : decode cX7_goTo 2 = .ok (.getfield 40, 3) := by decide +kernel
theorem dX7_goTo_5 : decode cX7_goTo 5 = .ok (.isub, 1) := by decide +kernel
theorem dX7_goTo_6 : decode cX7_goTo 6 = .ok (.istore_n 2, 1) := by decide +kernel
theorem dX7_goTo_7 : decode cX7_goTo 7 = .ok (.iconst 0, 1) := by decide +kernel
theorem dX7_goTo_8 : decode cX7_goTo 8 = .ok (.istore_n 3, 1) := by decide +kernel
theorem dX7_goTo_9 : decode cX7_goTo 9 = .ok (.iload_n 3, 1) := by decide +kernel
theorem dX7_goTo_10 : decode cX7_goTo 10 = .ok (.aload_n 0, 1) := by decide +kernel
theorem dX7_goTo_11 : decode cX7_goTo 11 = .ok (.getfield 12, 3) := by decide +kernel
theorem dX7_goTo_14 : decode cX7_goTo 14 = .ok (.invokevirtual 56, 3) := by decide +kernel
theorem dX7_goTo_17 : decode cX7_goTo 17 = .ok (.if_icmp .ge 66, 3) := by decide +kernel
theorem dX7_goTo_20 : decode cX7_goTo 20 = .ok (.aload_n 0, 1) := by decide +kernel
theorem dX7_goTo_21 : decode cX7_goTo 21 = .ok (.getfield 12, 3) := by decide +kernel
theorem dX7_goTo_24 : decode cX7_goTo 24 = .ok (.iload_n 3, 1) := by decide +kernel
theorem dX7_goTo_25 : decode cX7_goTo 25 = .ok (.invokevirtual 60, 3) := by decide +kernel
theorem dX7_goTo_28 : decode cX7_goTo 28 = .ok (.checkcast 64, 3) := by decide +kernel
theorem dX7_goTo_31 : decode cX7_goTo 31 = .ok (.astore 4, 2) := by decide +kernel
theorem dX7_goTo_33 : decode cX7_goTo 33 = .ok (.aload 4, 2) := by decide +kernel
theorem dX7_goTo_35 : decode cX7_goTo 35 = .ok (.dup, 1) := by decide +kernel
theorem dX7_goTo_36 : decode cX7_goTo 36 = .ok (.getfield 125, 3) := by decide +kernel
theorem dX7_goTo_39 : decode cX7_goTo 39 = .ok (.aload 4, 2) := by decide +kernel
theorem dX7_goTo_41 : decode cX7_goTo 41 = .ok (.getfield 128, 3) := by decide +kernel
theorem dX7_goTo_44 : decode cX7_goTo 44 = .ok (.aload 4, 2) := by decide +kernel
theorem dX7_goTo_46 : decode cX7_goTo 46 = .ok (.getfield 131, 3) := by decide +kernel
theorem dX7_goTo_49 : decode cX7_goTo 49 = .ok (.isub, 1) := by decide +kernel
theorem dX7_goTo_50 : decode cX7_goTo 50 = .ok (.iload_n 2, 1) := by decide +kernel
theorem dX7_goTo_51 : decode cX7_goTo 51 = .ok (.imul, 1) := by decide +kernel
theorem dX7_goTo_52 : decode cX7_goTo 52 = .ok (.iadd, 1) := by decide +kernel
theorem dX7_goTo_53 : decode cX7_goTo 53 = .ok (.putfield 125, 3) := by decide +kernel
theorem dX7_goTo_56 : decode cX7_goTo 56 = .ok (.aload 4, 2) := by decide +kernel
theorem dX7_goTo_58 : decode cX7_goTo 58 = .ok (.dup, 1) := by decide +kernel
theorem dX7_goTo_59 : decode cX7_goTo 59 = .ok (.getfield 134, 3) := by decide +kernel
theorem dX7_goTo_62 : decode cX7_goTo 62 = .ok (.aload_n 0, 1) := by decide +kernel
theorem dX7_goTo_63 : decode cX7_goTo 63 = .ok (.aload 4, 2) := by decide +kernel
theorem dX7_goTo_65 : decode cX7_goTo 65 = .ok (.getfield 137, 3) := by decide +kernel
theorem dX7_goTo_68 : decode cX7_goTo 68 = .ok (.invokevirtual 140, 3) := by decide +kernel
theorem dX7_goTo_71 : decode cX7_goTo 71 = .ok (.iload_n 2, 1) := by decide +kernel
theorem dX7_goTo_72 : decode cX7_goTo 72 = .ok (.imul, 1) := by decide +kernel
theorem dX7_goTo_73 : decode cX7_goTo 73 = .ok (.iadd, 1) := by decide +kernel
theorem dX7_goTo_74 : decode cX7_goTo 74 = .ok (.putfield 134, 3) := by decide +kernel
theorem dX7_goTo_77 : decode cX7_goTo 77 = .ok (.iinc 3 1, 3) := by decide +kernel
theorem dX7_goTo_80 : decode cX7_goTo 80 = .ok (.goto (-71), 3) := by decide +kernel
theorem dX7_goTo_83 : decode cX7_goTo 83 = .ok (.iconst 0, 1) := by decide +kernel
theorem dX7_goTo_84 : decode cX7_goTo 84 = .ok (.istore_n 3, 1) := by decide +kernel
theorem dX7_goTo_85 : decode cX7_goTo 85 = .ok (.iload_n 3, 1) := by decide +kernel
theorem dX7_goTo_86 : decode cX7_goTo 86 = .ok (.aload_n 0, 1) := by decide +kernel
theorem dX7_goTo_87 : decode cX7_goTo 87 = .ok (.getfield 18, 3) := by decide +kernel
theorem dX7_goTo_90 : decode cX7_goTo 90 = .ok (.invokevirtual 56, 3) := by decide +kernel
theorem dX7_goTo_93 : decode cX7_goTo 93 = .ok (.if_icmp .ge 39, 3) := by decide +kernel
theorem dX7_goTo_96 : decode cX7_goTo 96 = .ok (.aload_n 0, 1) := by decide +kernel
theorem dX7_goTo_97 : decode cX7_goTo 97 = .ok (.getfield 18, 3) := by decide +kernel
theorem dX7_goTo_100 : decode cX7_goTo 100 = .ok (.iload_n 3, 1) := by decide +kernel
theorem dX7_goTo_101 : decode cX7_goTo 101 = .ok (.invokevirtual 60, 3) := by decide +kernel
theorem dX7_goTo_104 : decode cX7_goTo 104 = .ok (.checkcast 69, 3) := by decide +kernel
theorem dX7_goTo_107 : decode cX7_goTo 107 = .ok (.astore 4, 2) := by decide +kernel
theorem dX7_goTo_109 : decode cX7_goTo 109 = .ok (.aload 4, 2) := by decide +kernel
theorem dX7_goTo_111 : decode cX7_goTo 111 = .ok (.dup, 1) := by decide +kernel
theorem dX7_goTo_112 : decode cX7_goTo 112 = .ok (.getfield 144, 3) := by decide +kernel
theorem dX7_goTo_115 : decode cX7_goTo 115 = .ok (.aload 4, 2) := by decide +kernel
theorem dX7_goTo_117 : decode cX7_goTo 117 = .ok (.getfield 147, 3) := by decide +kernel
theorem dX7_goTo_120 : decode cX7_goTo 120 = .ok (.iload_n 2, 1) := by decide +kernel
theorem dX7_goTo_121 : decode cX7_goTo 121 = .ok (.imul, 1) := by decide +kernel
theorem dX7_goTo_122 : decode cX7_goTo 122 = .ok (.iadd, 1) := by decide +kernel
theorem dX7_goTo_123 : decode cX7_goTo 123 = .ok (.putfield 144, 3) := by decide +kernel
theorem dX7_goTo_126 : decode cX7_goTo 126 = .ok (.iinc 3 1, 3) := by decide +kernel
theorem dX7_goTo_129 : decode cX7_goTo 129 = .ok (.goto (-44), 3) := by decide +kernel
theorem dX7_goTo_132 : decode cX7_goTo 132 = .ok (.aload_n 0, 1) := by decide +kernel
theorem dX7_goTo_133 : decode cX7_goTo 133 = .ok (.iload_n 1, 1) := by decide +kernel
theorem dX7_goTo_134 : decode cX7_goTo 134 = .ok (.putfield 40, 3) := by decide +kernel
theorem dX7_goTo_137 : decode cX7_goTo 137 = .ok (.return_, 1) := by decide +kernel
theorem dX7_runFor_0 : decode cX7_runFor 0 = .ok (.aload_n 0, 1) := by decide +kernel
theorem dX7_runFor_1 : decode cX7_runFor 1 = .ok (.getfield 40, 3) := by decide +kernel
theorem dX7_runFor_4 : decode cX7_runFor 4 = .ok (.iload_n 1, 1) := by decide +kernel
theorem dX7_runFor_5 : decode cX7_runFor 5 = .ok (.iadd, 1) := by decide +kernel
theorem dX7_runFor_6 : decode cX7_runFor 6 = .ok (.istore_n 2, 1) := by decide +kernel
theorem dX7_runFor_7 : decode cX7_runFor 7 = .ok (.iconst 0, 1) := by decide +kernel
theorem dX7_runFor_8 : decode cX7_runFor 8 = .ok (.istore_n 3, 1) := by decide +kernel
theorem dX7_runFor_9 : decode cX7_runFor 9 = .ok (.iload_n 3, 1) := by decide +kernel
theorem dX7_runFor_10 : decode cX7_runFor 10 = .ok (.sipush 400, 3) := by decide +kernel
theorem dX7_runFor_13 : decode cX7_runFor 13 = .ok (.if_icmp .ge 22, 3) := by decide +kernel
theorem dX7_runFor_16 : decode cX7_runFor 16 = .ok (.aload_n 0, 1) := by decide +kernel
theorem dX7_runFor_17 : decode cX7_runFor 17 = .ok (.iload_n 2, 1) := by decide +kernel
theorem dX7_runFor_18 : decode cX7_runFor 18 = .ok (.invokevirtual 150, 3) := by decide +kernel
theorem dX7_runFor_21 : decode cX7_runFor 21 = .ok (.ifCond .eq 14, 3) := by decide +kernel
theorem dX7_runFor_24 : decode cX7_runFor 24 = .ok (.aload_n 0, 1) := by decide +kernel
theorem dX7_runFor_25 : decode cX7_runFor 25 = .ok (.invokevirtual 154, 3) := by decide +kernel
theorem dX7_runFor_28 : decode cX7_runFor 28 = .ok (.pop, 1) := by decide +kernel
theorem dX7_runFor_29 : decode cX7_runFor 29 = .ok (.iinc 3 1, 3) := by decide +kernel
theorem dX7_runFor_32 : decode cX7_runFor 32 = .ok (.goto (-23), 3) := by decide +kernel
theorem dX7_runFor_35 : decode cX7_runFor 35 = .ok (.aload_n 0, 1) := by decide +kernel
theorem dX7_runFor_36 : decode cX7_runFor 36 = .ok (.iload_n 2, 1) := by decide +kernel
theorem dX7_runFor_37 : decode cX7_runFor 37 = .ok (.invokevirtual 150, 3) := by decide +kernel
theorem dX7_runFor_40 : decode cX7_runFor 40 = .ok (.ifCond .ne 8, 3) := by decide +kernel
theorem dX7_runFor_43 : decode cX7_runFor 43 = .ok (.aload_n 0, 1) := by decide +kernel
theorem dX7_runFor_44 : decode cX7_runFor 44 = .ok (.iload_n 2, 1) := by decide +kernel
theorem dX7_runFor_45 : decode cX7_runFor 45 = .ok (.invokevirtual 157, 3) := by decide +kernel
theorem dX7_runFor_48 : decode cX7_runFor 48 = .ok (.iload_n 3, 1) := by decide +kernel
theorem dX7_runFor_49 : decode cX7_runFor 49 = .ok (.ireturn, 1) := by decide +kernel
theorem dX7_runToEndOf_0 : decode cX7_runToEndOf 0 = .ok (.aload_n 0, 1) := by decide +kernel
theorem dX7_runToEndOf_1 : decode cX7_runToEndOf 1 = .ok (.iload_n 1, 1) := by decide +kernel
theorem dX7_runToEndOf_2 : decode cX7_runToEndOf 2 = .ok (.invokevirtual 160, 3) := by decide +kernel
theorem dX7_runToEndOf_5 : decode cX7_runToEndOf 5 = .ok (.astore_n 3, 1) := by decide +kernel
theorem dX7_runToEndOf_6 : decode cX7_runToEndOf 6 = .ok (.iconst 0, 1) := by decide +kernel
theorem dX7_runToEndOf_7 : decode cX7_runToEndOf 7 = .ok (.istore 4, 2) := by decide +kernel
theorem dX7_runToEndOf_9 : decode cX7_runToEndOf 9 = .ok (.aload_n 3, 1) := by decide +kernel
theorem dX7_runToEndOf_10 : decode cX7_runToEndOf 10 = .ok (.ifnull 32, 3) := by decide +kernel
theorem dX7_runToEndOf_13 : decode cX7_runToEndOf 13 = .ok (.iload 4, 2) := by decide +kernel
theorem dX7_runToEndOf_15 : decode cX7_runToEndOf 15 = .ok (.iload_n 2, 1) := by decide +kernel
theorem dX7_runToEndOf_16 : decode cX7_runToEndOf 16 = .ok (.if_icmp .ge 26, 3) := by decide +kernel
theorem dX7_runToEndOf_19 : decode cX7_runToEndOf 19 = .ok (.aload_n 0, 1) := by decide +kernel
theorem dX7_runToEndOf_20 : decode cX7_runToEndOf 20 = .ok (.invokevirtual 154, 3) := by decide +kernel
theorem dX7_runToEndOf_23 : decode cX7_runToEndOf 23 = .ok (.pop, 1) := by decide +kernel
theorem dX7_runToEndOf_24 : decode cX7_runToEndOf 24 = .ok (.aload_n 3, 1) := by decide +kernel
theorem dX7_runToEndOf_25 : decode cX7_runToEndOf 25 = .ok (.invokevirtual 164, 3) := by decide +kernel
theorem dX7_runToEndOf_28 : decode cX7_runToEndOf 28 = .ok (.ifCond .eq 8, 3) := by decide +kernel
theorem dX7_runToEndOf_31 : decode cX7_runToEndOf 31 = .ok (.aload_n 0, 1) := by decide +kernel
theorem dX7_runToEndOf_32 : decode cX7_runToEndOf 32 = .ok (.getfield 40, 3) := by decide +kernel
theorem dX7_runToEndOf_35 : decode cX7_runToEndOf 35 = .ok (.ireturn, 1) := by decide +kernel
theorem dX7_runToEndOf_36 : decode cX7_runToEndOf 36 = .ok (.iinc 4 1, 3) := by decide +kernel
theorem dX7_runToEndOf_39 : decode cX7_runToEndOf 39 = .ok (.goto (-30), 3) := by decide +kernel
theorem dX7_runToEndOf_42 : decode cX7_runToEndOf 42 = .ok (.iconst (-1), 1) := by decide +kernel
theorem dX7_runToEndOf_43 : decode cX7_runToEndOf 43 = .ok (.ireturn, 1) := by decide +kernel
theorem dX7_happen_0 : decode cX7_happen 0 = .ok (.aload_n 0, 1) := by decide +kernel
theorem dX7_happen_1 : decode cX7_happen 1 = .ok (.invokevirtual 121, 3) := by decide +kernel
theorem dX7_happen_4 : decode cX7_happen 4 = .ok (.astore_n 1, 1) := by decide +kernel
theorem dX7_happen_5 : decode cX7_happen 5 = .ok (.aload_n 1, 1) := by decide +kernel
theorem dX7_happen_6 : decode cX7_happen 6 = .ok (.ifnonnull 5, 3) := by decide +kernel
theorem dX7_happen_9 : decode cX7_happen 9 = .ok (.aconst_null, 1) := by decide +kernel
theorem dX7_happen_10 : decode cX7_happen 10 = .ok (.areturn, 1) := by decide +kernel
theorem dX7_happen_11 : decode cX7_happen 11 = .ok (.aload_n 0, 1) := by decide +kernel
theorem dX7_happen_12 : decode cX7_happen 12 = .ok (.aload_n 1, 1) := by decide +kernel
theorem dX7_happen_13 : decode cX7_happen 13 = .ok (.getfield 95, 3) := by decide +kernel
theorem dX7_happen_16 : decode cX7_happen 16 = .ok (.invokevirtual 157, 3) := by decide +kernel
theorem dX7_happen_19 : decode cX7_happen 19 = .ok (.aload_n 1, 1) := by decide +kernel
theorem dX7_happen_20 : decode cX7_happen 20 = .ok (.iconst (-1), 1) := by decide +kernel
theorem dX7_happen_21 : decode cX7_happen 21 = .ok (.putfield 95, 3) := by decide +kernel
theorem dX7_happen_24 : decode cX7_happen 24 = .ok (.aload_n 1, 1) := by decide +kernel
theorem dX7_happen_25 : decode cX7_happen 25 = .ok (.bipush 8, 2) := by decide +kernel
theorem dX7_happen_27 : decode cX7_happen 27 = .ok (.putfield 92, 3) := by decide +kernel
theorem dX7_happen_30 : decode cX7_happen 30 = .ok (.iconst 0, 1) := by decide +kernel
theorem dX7_happen_31 : decode cX7_happen 31 = .ok (.istore_n 2, 1) := by decide +kernel
theorem dX7_happen_32 : decode cX7_happen 32 = .ok (.aload_n 1, 1) := by decide +kernel
theorem dX7_happen_33 : decode cX7_happen 33 = .ok (.getfield 92, 3) := by decide +kernel
theorem dX7_happen_36 : decode cX7_happen 36 = .ok (.bipush 8, 2) := by decide +kernel
theorem dX7_happen_38 : decode cX7_happen 38 = .ok (.if_icmp .ne 58, 3) := by decide +kernel
theorem dX7_happen_41 : decode cX7_happen 41 = .ok (.iload_n 2, 1) := by decide +kernel
theorem dX7_happen_42 : decode cX7_happen 42 = .ok (.bipush 40, 2) := by decide +kernel
theorem dX7_happen_44 : decode cX7_happen 44 = .ok (.if_icmp .ge 52, 3) := by decide +kernel
theorem dX7_happen_47 : decode cX7_happen 47 = .ok (.aload_n 1, 1) := by decide +kernel
theorem dX7_happen_48 : decode cX7_happen 48 = .ok (.invokevirtual 168, 3) := by decide +kernel
theorem dX7_happen_51 : decode cX7_happen 51 = .ok (.astore_n 3, 1) := by decide +kernel
theorem dX7_happen_52 : decode cX7_happen 52 = .ok (.aload_n 3, 1) := by decide +kernel
theorem dX7_happen_53 : decode cX7_happen 53 = .ok (.ifnonnull 11, 3) := by decide +kernel
theorem dX7_happen_56 : decode cX7_happen 56 = .ok (.aload_n 1, 1) := by decide +kernel
theorem dX7_happen_57 : decode cX7_happen 57 = .ok (.iconst 5, 1) := by decide +kernel
theorem dX7_happen_58 : decode cX7_happen 58 = .ok (.putfield 92, 3) := by decide +kernel
theorem dX7_happen_61 : decode cX7_happen 61 = .ok (.goto 29, 3) := by decide +kernel
theorem dX7_happen_64 : decode cX7_happen 64 = .ok (.aload_n 0, 1) := by decide +kernel
theorem dX7_happen_65 : decode cX7_happen 65 = .ok (.dup, 1) := by decide +kernel
theorem dX7_happen_66 : decode cX7_happen 66 = .ok (.getfield 46, 3) := by decide +kernel
theorem dX7_happen_69 : decode cX7_happen 69 = .ok (.iconst 1, 1) := by decide +kernel
theorem dX7_happen_70 : decode cX7_happen 70 = .ok (.iadd, 1) := by decide +kernel
theorem dX7_happen_71 : decode cX7_happen 71 = .ok (.putfield 46, 3) := by decide +kernel
theorem dX7_happen_74 : decode cX7_happen 74 = .ok (.aload_n 1, 1) := by decide +kernel
theorem dX7_happen_75 : decode cX7_happen 75 = .ok (.dup, 1) := by decide +kernel
theorem dX7_happen_76 : decode cX7_happen 76 = .ok (.getfield 110, 3) := by decide +kernel
theorem dX7_happen_79 : decode cX7_happen 79 = .ok (.iconst 1, 1) := by decide +kernel
theorem dX7_happen_80 : decode cX7_happen 80 = .ok (.iadd, 1) := by decide +kernel
theorem dX7_happen_81 : decode cX7_happen 81 = .ok (.putfield 110, 3) := by decide +kernel
theorem dX7_happen_84 : decode cX7_happen 84 = .ok (.aload_n 0, 1) := by decide +kernel
theorem dX7_happen_85 : decode cX7_happen 85 = .ok (.aload_n 1, 1) := by decide +kernel
theorem dX7_happen_86 : decode cX7_happen 86 = .ok (.aload_n 3, 1) := by decide +kernel
theorem dX7_happen_87 : decode cX7_happen 87 = .ok (.invokevirtual 172, 3) := by decide +kernel
theorem dX7_happen_90 : decode cX7_happen 90 = .ok (.iinc 2 1, 3) := by decide +kernel
theorem dX7_happen_93 : decode cX7_happen 93 = .ok (.goto (-61), 3) := by decide +kernel
theorem dX7_happen_96 : decode cX7_happen 96 = .ok (.aload_n 1, 1) := by decide +kernel
theorem dX7_happen_97 : decode cX7_happen 97 = .ok (.getfield 92, 3) := by decide +kernel
theorem dX7_happen_100 : decode cX7_happen 100 = .ok (.bipush 8, 2) := by decide +kernel
theorem dX7_happen_102 : decode cX7_happen 102 = .ok (.if_icmp .ne 9, 3) := by decide +kernel
theorem dX7_happen_105 : decode cX7_happen 105 = .ok (.aload_n 1, 1) := by decide +kernel
theorem dX7_happen_106 : decode cX7_happen 106 = .ok (.bipush 6, 2) := by decide +kernel
theorem dX7_happen_108 : decode cX7_happen 108 = .ok (.putfield 92, 3) := by decide +kernel
theorem dX7_happen_111 : decode cX7_happen 111 = .ok (.aload_n 1, 1) := by decide +kernel
theorem dX7_happen_112 : decode cX7_happen 112 = .ok (.invokevirtual 164, 3) := by decide +kernel
theorem dX7_happen_115 : decode cX7_happen 115 = .ok (.ifCond .eq 12, 3) := by decide +kernel
theorem dX7_happen_118 : decode cX7_happen 118 = .ok (.aload_n 0, 1) := by decide +kernel
theorem dX7_happen_119 : decode cX7_happen 119 = .ok (.aload_n 1, 1) := by decide +kernel
theorem dX7_happen_120 : decode cX7_happen 120 = .ok (.aload_n 1, 1) := by decide +kernel
theorem dX7_happen_121 : decode cX7_happen 121 = .ok (.getfield 92, 3) := by decide +kernel
theorem dX7_happen_124 : decode cX7_happen 124 = .ok (.invokevirtual 176, 3) := by decide +kernel
theorem dX7_happen_127 : decode cX7_happen 127 = .ok (.aload_n 1, 1) := by decide +kernel
theorem dX7_happen_128 : decode cX7_happen 128 = .ok (.areturn, 1) := by decide +kernel
theorem dX7_obey_0 : decode cX7_obey 0 = .ok (.aload_n 2, 1) := by decide +kernel
theorem dX7_obey_1 : decode cX7_obey 1 = .ok (.getfield 180, 3) := by decide +kernel
theorem dX7_obey_4 : decode cX7_obey 4 = .ok (.tableswitch 306 0 12 #[68, 101, 121, 141, 162, 183, 197, 213, 233, 244, 268, 277, 295], 68) := by decide +kernel
theorem dX7_obey_72 : decode cX7_obey 72 = .ok (.aload_n 0, 1) := by decide +kernel
theorem dX7_obey_73 : decode cX7_obey 73 = .ok (.aload_n 1, 1) := by decide +kernel
theorem dX7_obey_74 : decode cX7_obey 74 = .ok (.iconst 1, 1) := by decide +kernel
theorem dX7_obey_75 : decode cX7_obey 75 = .ok (.aload_n 2, 1) := by decide +kernel
theorem dX7_obey_76 : decode cX7_obey 76 = .ok (.getfield 185, 3) := by decide +kernel
theorem dX7_obey_79 : decode cX7_obey 79 = .ok (.aload_n 2, 1) := by decide +kernel
theorem dX7_obey_80 : decode cX7_obey 80 = .ok (.getfield 188, 3) := by decide +kernel
theorem dX7_obey_83 : decode cX7_obey 83 = .ok (.ifCond .ne 7, 3) := by decide +kernel
theorem dX7_obey_86 : decode cX7_obey 86 = .ok (.iconst 0, 1) := by decide +kernel
theorem dX7_obey_87 : decode cX7_obey 87 = .ok (.goto 11, 3) := by decide +kernel
theorem dX7_obey_90 : decode cX7_obey 90 = .ok (.aload_n 0, 1) := by decide +kernel
theorem dX7_obey_91 : decode cX7_obey 91 = .ok (.aload_n 2, 1) := by decide +kernel
theorem dX7_obey_92 : decode cX7_obey 92 = .ok (.getfield 188, 3) := by decide +kernel
theorem dX7_obey_95 : decode cX7_obey 95 = .ok (.invokevirtual 191, 3) := by decide +kernel
theorem dX7_obey_98 : decode cX7_obey 98 = .ok (.iadd, 1) := by decide +kernel
theorem dX7_obey_99 : decode cX7_obey 99 = .ok (.invokevirtual 88, 3) := by decide +kernel
theorem dX7_obey_102 : decode cX7_obey 102 = .ok (.goto 225, 3) := by decide +kernel
theorem dX7_obey_105 : decode cX7_obey 105 = .ok (.aload_n 0, 1) := by decide +kernel
theorem dX7_obey_106 : decode cX7_obey 106 = .ok (.aload_n 1, 1) := by decide +kernel
theorem dX7_obey_107 : decode cX7_obey 107 = .ok (.aload_n 0, 1) := by decide +kernel
theorem dX7_obey_108 : decode cX7_obey 108 = .ok (.aload_n 2, 1) := by decide +kernel
theorem dX7_obey_109 : decode cX7_obey 109 = .ok (.getfield 185, 3) := by decide +kernel
theorem dX7_obey_112 : decode cX7_obey 112 = .ok (.invokevirtual 194, 3) := by decide +kernel
theorem dX7_obey_115 : decode cX7_obey 115 = .ok (.aload_n 2, 1) := by decide +kernel
theorem dX7_obey_116 : decode cX7_obey 116 = .ok (.getfield 188, 3) := by decide +kernel
theorem dX7_obey_119 : decode cX7_obey 119 = .ok (.invokevirtual 198, 3) := by decide +kernel
theorem dX7_obey_122 : decode cX7_obey 122 = .ok (.goto 205, 3) := by decide +kernel
theorem dX7_obey_125 : decode cX7_obey 125 = .ok (.aload_n 0, 1) := by decide +kernel
theorem dX7_obey_126 : decode cX7_obey 126 = .ok (.aload_n 1, 1) := by decide +kernel
theorem dX7_obey_127 : decode cX7_obey 127 = .ok (.aload_n 0, 1) := by decide +kernel
theorem dX7_obey_128 : decode cX7_obey 128 = .ok (.aload_n 2, 1) := by decide +kernel
theorem dX7_obey_129 : decode cX7_obey 129 = .ok (.getfield 185, 3) := by decide +kernel
theorem dX7_obey_132 : decode cX7_obey 132 = .ok (.invokevirtual 194, 3) := by decide +kernel
theorem dX7_obey_135 : decode cX7_obey 135 = .ok (.aload_n 2, 1) := by decide +kernel
theorem dX7_obey_136 : decode cX7_obey 136 = .ok (.getfield 188, 3) := by decide +kernel
theorem dX7_obey_139 : decode cX7_obey 139 = .ok (.invokevirtual 113, 3) := by decide +kernel
theorem dX7_obey_142 : decode cX7_obey 142 = .ok (.goto 185, 3) := by decide +kernel
theorem dX7_obey_145 : decode cX7_obey 145 = .ok (.aload_n 0, 1) := by decide +kernel
theorem dX7_obey_146 : decode cX7_obey 146 = .ok (.aload_n 1, 1) := by decide +kernel
theorem dX7_obey_147 : decode cX7_obey 147 = .ok (.aload_n 0, 1) := by decide +kernel
theorem dX7_obey_148 : decode cX7_obey 148 = .ok (.aload_n 2, 1) := by decide +kernel
theorem dX7_obey_149 : decode cX7_obey 149 = .ok (.getfield 185, 3) := by decide +kernel
theorem dX7_obey_152 : decode cX7_obey 152 = .ok (.invokevirtual 201, 3) := by decide +kernel
theorem dX7_obey_155 : decode cX7_obey 155 = .ok (.aload_n 2, 1) := by decide +kernel
theorem dX7_obey_156 : decode cX7_obey 156 = .ok (.getfield 188, 3) := by decide +kernel
theorem dX7_obey_159 : decode cX7_obey 159 = .ok (.iconst 0, 1) := by decide +kernel
theorem dX7_obey_160 : decode cX7_obey 160 = .ok (.invokevirtual 205, 3) := by decide +kernel
theorem dX7_obey_163 : decode cX7_obey 163 = .ok (.goto 164, 3) := by decide +kernel
theorem dX7_obey_166 : decode cX7_obey 166 = .ok (.aload_n 0, 1) := by decide +kernel
theorem dX7_obey_167 : decode cX7_obey 167 = .ok (.aload_n 1, 1) := by decide +kernel
theorem dX7_obey_168 : decode cX7_obey 168 = .ok (.aload_n 0, 1) := by decide +kernel
theorem dX7_obey_169 : decode cX7_obey 169 = .ok (.aload_n 2, 1) := by decide +kernel
theorem dX7_obey_170 : decode cX7_obey 170 = .ok (.getfield 185, 3) := by decide +kernel
theorem dX7_obey_173 : decode cX7_obey 173 = .ok (.invokevirtual 201, 3) := by decide +kernel
theorem dX7_obey_176 : decode cX7_obey 176 = .ok (.aload_n 2, 1) := by decide +kernel
theorem dX7_obey_177 : decode cX7_obey 177 = .ok (.getfield 188, 3) := by decide +kernel
theorem dX7_obey_180 : decode cX7_obey 180 = .ok (.iconst 1, 1) := by decide +kernel
theorem dX7_obey_181 : decode cX7_obey 181 = .ok (.invokevirtual 205, 3) := by decide +kernel
theorem dX7_obey_184 : decode cX7_obey 184 = .ok (.goto 143, 3) := by decide +kernel
theorem dX7_obey_187 : decode cX7_obey 187 = .ok (.aload_n 0, 1) := by decide +kernel
theorem dX7_obey_188 : decode cX7_obey 188 = .ok (.bipush 14, 2) := by decide +kernel
theorem dX7_obey_190 : decode cX7_obey 190 = .ok (.aload_n 2, 1) := by decide +kernel
theorem dX7_obey_191 : decode cX7_obey 191 = .ok (.getfield 185, 3) := by decide +kernel
theorem dX7_obey_194 : decode cX7_obey 194 = .ok (.iadd, 1) := by decide +kernel
theorem dX7_obey_195 : decode cX7_obey 195 = .ok (.invokevirtual 209, 3) := by decide +kernel
theorem dX7_obey_198 : decode cX7_obey 198 = .ok (.goto 129, 3) := by decide +kernel
theorem dX7_obey_201 : decode cX7_obey 201 = .ok (.aload_n 0, 1) := by decide +kernel
theorem dX7_obey_202 : decode cX7_obey 202 = .ok (.aload_n 1, 1) := by decide +kernel
theorem dX7_obey_203 : decode cX7_obey 203 = .ok (.bipush 14, 2) := by decide +kernel
theorem dX7_obey_205 : decode cX7_obey 205 = .ok (.aload_n 2, 1) := by decide +kernel
theorem dX7_obey_206 : decode cX7_obey 206 = .ok (.getfield 185, 3) := by decide +kernel
theorem dX7_obey_209 : decode cX7_obey 209 = .ok (.iadd, 1) := by decide +kernel
theorem dX7_obey_210 : decode cX7_obey 210 = .ok (.iconst 4, 1) := by decide +kernel
theorem dX7_obey_211 : decode cX7_obey 211 = .ok (.invokevirtual 212, 3) := by decide +kernel
theorem dX7_obey_214 : decode cX7_obey 214 = .ok (.goto 113, 3) := by decide +kernel
theorem dX7_obey_217 : decode cX7_obey 217 = .ok (.aload_n 0, 1) := by decide +kernel
theorem dX7_obey_218 : decode cX7_obey 218 = .ok (.aload_n 0, 1) := by decide +kernel
theorem dX7_obey_219 : decode cX7_obey 219 = .ok (.aload_n 2, 1) := by decide +kernel
theorem dX7_obey_220 : decode cX7_obey 220 = .ok (.getfield 185, 3) := by decide +kernel
theorem dX7_obey_223 : decode cX7_obey 223 = .ok (.invokevirtual 215, 3) := by decide +kernel
theorem dX7_obey_226 : decode cX7_obey 226 = .ok (.aload_n 2, 1) := by decide +kernel
theorem dX7_obey_227 : decode cX7_obey 227 = .ok (.getfield 188, 3) := by decide +kernel
theorem dX7_obey_230 : decode cX7_obey 230 = .ok (.iconst 0, 1) := by decide +kernel
theorem dX7_obey_231 : decode cX7_obey 231 = .ok (.invokevirtual 218, 3) := by decide +kernel
theorem dX7_obey_234 : decode cX7_obey 234 = .ok (.goto 93, 3) := by decide +kernel
theorem dX7_obey_237 : decode cX7_obey 237 = .ok (.aload_n 1, 1) := by decide +kernel
theorem dX7_obey_238 : decode cX7_obey 238 = .ok (.aload_n 0, 1) := by decide +kernel
theorem dX7_obey_239 : decode cX7_obey 239 = .ok (.getfield 40, 3) := by decide +kernel
theorem dX7_obey_242 : decode cX7_obey 242 = .ok (.putfield 85, 3) := by decide +kernel
theorem dX7_obey_245 : decode cX7_obey 245 = .ok (.goto 82, 3) := by decide +kernel
theorem dX7_obey_248 : decode cX7_obey 248 = .ok (.aload_n 0, 1) := by decide +kernel
theorem dX7_obey_249 : decode cX7_obey 249 = .ok (.aload_n 0, 1) := by decide +kernel
theorem dX7_obey_250 : decode cX7_obey 250 = .ok (.aload_n 2, 1) := by decide +kernel
theorem dX7_obey_251 : decode cX7_obey 251 = .ok (.getfield 185, 3) := by decide +kernel
theorem dX7_obey_254 : decode cX7_obey 254 = .ok (.invokevirtual 222, 3) := by decide +kernel
theorem dX7_obey_257 : decode cX7_obey 257 = .ok (.aload_n 0, 1) := by decide +kernel
theorem dX7_obey_258 : decode cX7_obey 258 = .ok (.getfield 40, 3) := by decide +kernel
theorem dX7_obey_261 : decode cX7_obey 261 = .ok (.aload_n 1, 1) := by decide +kernel
theorem dX7_obey_262 : decode cX7_obey 262 = .ok (.getfield 85, 3) := by decide +kernel
theorem dX7_obey_265 : decode cX7_obey 265 = .ok (.isub, 1) := by decide +kernel
theorem dX7_obey_266 : decode cX7_obey 266 = .ok (.invokevirtual 226, 3) := by decide +kernel
theorem dX7_obey_269 : decode cX7_obey 269 = .ok (.goto 58, 3) := by decide +kernel
theorem dX7_obey_272 : decode cX7_obey 272 = .ok (.aload_n 0, 1) := by decide +kernel
theorem dX7_obey_273 : decode cX7_obey 273 = .ok (.aload_n 1, 1) := by decide +kernel
theorem dX7_obey_274 : decode cX7_obey 274 = .ok (.aload_n 2, 1) := by decide +kernel
theorem dX7_obey_275 : decode cX7_obey 275 = .ok (.invokevirtual 230, 3) := by decide +kernel
theorem dX7_obey_278 : decode cX7_obey 278 = .ok (.goto 49, 3) := by decide +kernel
theorem dX7_obey_281 : decode cX7_obey 281 = .ok (.aload_n 0, 1) := by decide +kernel
theorem dX7_obey_282 : decode cX7_obey 282 = .ok (.aload_n 1, 1) := by decide +kernel
theorem dX7_obey_283 : decode cX7_obey 283 = .ok (.iconst 1, 1) := by decide +kernel
theorem dX7_obey_284 : decode cX7_obey 284 = .ok (.aload_n 1, 1) := by decide +kernel
theorem dX7_obey_285 : decode cX7_obey 285 = .ok (.getfield 101, 3) := by decide +kernel
theorem dX7_obey_288 : decode cX7_obey 288 = .ok (.invokevirtual 88, 3) := by decide +kernel
theorem dX7_obey_291 : decode cX7_obey 291 = .ok (.aload_n 1, 1) := by decide +kernel
theorem dX7_obey_292 : decode cX7_obey 292 = .ok (.iconst 0, 1) := by decide +kernel
theorem dX7_obey_293 : decode cX7_obey 293 = .ok (.putfield 101, 3) := by decide +kernel
theorem dX7_obey_296 : decode cX7_obey 296 = .ok (.goto 31, 3) := by decide +kernel
theorem dX7_obey_299 : decode cX7_obey 299 = .ok (.aload_n 1, 1) := by decide +kernel
theorem dX7_obey_300 : decode cX7_obey 300 = .ok (.aload_n 2, 1) := by decide +kernel
theorem dX7_obey_301 : decode cX7_obey 301 = .ok (.getfield 185, 3) := by decide +kernel
theorem dX7_obey_304 : decode cX7_obey 304 = .ok (.putfield 82, 3) := by decide +kernel
theorem dX7_obey_307 : decode cX7_obey 307 = .ok (.goto 20, 3) := by decide +kernel
theorem dX7_obey_310 : decode cX7_obey 310 = .ok (.aload_n 0, 1) := by decide +kernel
theorem dX7_obey_311 : decode cX7_obey 311 = .ok (.aload_n 1, 1) := by decide +kernel
theorem dX7_obey_312 : decode cX7_obey 312 = .ok (.aload_n 0, 1) := by decide +kernel
theorem dX7_obey_313 : decode cX7_obey 313 = .ok (.aload_n 2, 1) := by decide +kernel
theorem dX7_obey_314 : decode cX7_obey 314 = .ok (.getfield 185, 3) := by decide +kernel
theorem dX7_obey_317 : decode cX7_obey 317 = .ok (.invokevirtual 201, 3) := by decide +kernel
theorem dX7_obey_320 : decode cX7_obey 320 = .ok (.aload_n 2, 1) := by decide +kernel
theorem dX7_obey_321 : decode cX7_obey 321 = .ok (.getfield 188, 3) := by decide +kernel
theorem dX7_obey_324 : decode cX7_obey 324 = .ok (.invokevirtual 233, 3) := by decide +kernel
theorem dX7_obey_327 : decode cX7_obey 327 = .ok (.return_, 1) := by decide +kernel
theorem dX7_drawBelow_0 : decode cX7_drawBelow 0 = .ok (.aload_n 0, 1) := by decide +kernel
theorem dX7_drawBelow_1 : decode cX7_drawBelow 1 = .ok (.aload_n 0, 1) := by decide +kernel
theorem dX7_drawBelow_2 : decode cX7_drawBelow 2 = .ok (.getfield 43, 3) := by decide +kernel
theorem dX7_drawBelow_5 : decode cX7_drawBelow 5 = .ok (.sipush 4621, 3) := by decide +kernel
theorem dX7_drawBelow_8 : decode cX7_drawBelow 8 = .ok (.imul, 1) := by decide +kernel
theorem dX7_drawBelow_9 : decode cX7_drawBelow 9 = .ok (.sipush 2777, 3) := by decide +kernel
theorem dX7_drawBelow_12 : decode cX7_drawBelow 12 = .ok (.iadd, 1) := by decide +kernel
theorem dX7_drawBelow_13 : decode cX7_drawBelow 13 = .ok (.sipush 10000, 3) := by decide +kernel
theorem dX7_drawBelow_16 : decode cX7_drawBelow 16 = .ok (.irem, 1) := by decide +kernel
theorem dX7_drawBelow_17 : decode cX7_drawBelow 17 = .ok (.putfield 43, 3) := by decide +kernel
theorem dX7_drawBelow_20 : decode cX7_drawBelow 20 = .ok (.iload_n 1, 1) := by decide +kernel
theorem dX7_drawBelow_21 : decode cX7_drawBelow 21 = .ok (.ifCond .le 12, 3) := by decide +kernel
theorem dX7_drawBelow_24 : decode cX7_drawBelow 24 = .ok (.aload_n 0, 1) := by decide +kernel
theorem dX7_drawBelow_25 : decode cX7_drawBelow 25 = .ok (.getfield 43, 3) := by decide +kernel
theorem dX7_drawBelow_28 : decode cX7_drawBelow 28 = .ok (.iload_n 1, 1) := by decide +kernel
theorem dX7_drawBelow_29 : decode cX7_drawBelow 29 = .ok (.irem, 1) := by decide +kernel
theorem dX7_drawBelow_30 : decode cX7_drawBelow 30 = .ok (.goto 4, 3) := by decide +kernel
theorem dX7_drawBelow_33 : decode cX7_drawBelow 33 = .ok (.iconst 0, 1) := by decide +kernel
theorem dX7_drawBelow_34 : decode cX7_drawBelow 34 = .ok (.ireturn, 1) := by decide +kernel
theorem dX7_wakeAll_0 : decode cX7_wakeAll 0 = .ok (.iconst 0, 1) := by decide +kernel
theorem dX7_wakeAll_1 : decode cX7_wakeAll 1 = .ok (.istore_n 2, 1) := by decide +kernel
theorem dX7_wakeAll_2 : decode cX7_wakeAll 2 = .ok (.iload_n 2, 1) := by decide +kernel
theorem dX7_wakeAll_3 : decode cX7_wakeAll 3 = .ok (.bipush 24, 2) := by decide +kernel
theorem dX7_wakeAll_5 : decode cX7_wakeAll 5 = .ok (.if_icmp .ge 32, 3) := by decide +kernel
theorem dX7_wakeAll_8 : decode cX7_wakeAll 8 = .ok (.aload_n 0, 1) := by decide +kernel
theorem dX7_wakeAll_9 : decode cX7_wakeAll 9 = .ok (.iload_n 1, 1) := by decide +kernel
theorem dX7_wakeAll_10 : decode cX7_wakeAll 10 = .ok (.invokevirtual 237, 3) := by decide +kernel
theorem dX7_wakeAll_13 : decode cX7_wakeAll 13 = .ok (.astore_n 3, 1) := by decide +kernel
theorem dX7_wakeAll_14 : decode cX7_wakeAll 14 = .ok (.aload_n 3, 1) := by decide +kernel
theorem dX7_wakeAll_15 : decode cX7_wakeAll 15 = .ok (.ifnonnull 4, 3) := by decide +kernel
theorem dX7_wakeAll_18 : decode cX7_wakeAll 18 = .ok (.return_, 1) := by decide +kernel
theorem dX7_wakeAll_19 : decode cX7_wakeAll 19 = .ok (.aload_n 3, 1) := by decide +kernel
theorem dX7_wakeAll_20 : decode cX7_wakeAll 20 = .ok (.iconst (-1), 1) := by decide +kernel
theorem dX7_wakeAll_21 : decode cX7_wakeAll 21 = .ok (.putfield 240, 3) := by decide +kernel
theorem dX7_wakeAll_24 : decode cX7_wakeAll 24 = .ok (.aload_n 0, 1) := by decide +kernel
theorem dX7_wakeAll_25 : decode cX7_wakeAll 25 = .ok (.aload_n 3, 1) := by decide +kernel
theorem dX7_wakeAll_26 : decode cX7_wakeAll 26 = .ok (.iconst 0, 1) := by decide +kernel
theorem dX7_wakeAll_27 : decode cX7_wakeAll 27 = .ok (.iconst 0, 1) := by decide +kernel
theorem dX7_wakeAll_28 : decode cX7_wakeAll 28 = .ok (.invokevirtual 88, 3) := by decide +kernel
theorem dX7_wakeAll_31 : decode cX7_wakeAll 31 = .ok (.iinc 2 1, 3) := by decide +kernel
theorem dX7_wakeAll_34 : decode cX7_wakeAll 34 = .ok (.goto (-32), 3) := by decide +kernel
theorem dX7_wakeAll_37 : decode cX7_wakeAll 37 = .ok (.return_, 1) := by decide +kernel
theorem dX7_tell_0 : decode cX7_tell 0 = .ok (.aload_n 1, 1) := by decide +kernel
theorem dX7_tell_1 : decode cX7_tell 1 = .ok (.ifnull 8, 3) := by decide +kernel
theorem dX7_tell_4 : decode cX7_tell 4 = .ok (.aload_n 1, 1) := by decide +kernel
theorem dX7_tell_5 : decode cX7_tell 5 = .ok (.iload_n 2, 1) := by decide +kernel
theorem dX7_tell_6 : decode cX7_tell 6 = .ok (.invokevirtual 243, 3) := by decide +kernel
theorem dX7_tell_9 : decode cX7_tell 9 = .ok (.return_, 1) := by decide +kernel
theorem dX7_goAgain_0 : decode cX7_goAgain 0 = .ok (.aload_n 1, 1) := by decide +kernel
theorem dX7_goAgain_1 : decode cX7_goAgain 1 = .ok (.getfield 246, 3) := by decide +kernel
theorem dX7_goAgain_4 : decode cX7_goAgain 4 = .ok (.aload_n 2, 1) := by decide +kernel
theorem dX7_goAgain_5 : decode cX7_goAgain 5 = .ok (.getfield 250, 3) := by decide +kernel
theorem dX7_goAgain_8 : decode cX7_goAgain 8 = .ok (.invokestatic 251, 3) := by decide +kernel
theorem dX7_goAgain_11 : decode cX7_goAgain 11 = .ok (.istore_n 3, 1) := by decide +kernel
theorem dX7_goAgain_12 : decode cX7_goAgain 12 = .ok (.iload_n 3, 1) := by decide +kernel
theorem dX7_goAgain_13 : decode cX7_goAgain 13 = .ok (.aload_n 2, 1) := by decide +kernel
theorem dX7_goAgain_14 : decode cX7_goAgain 14 = .ok (.getfield 188, 3) := by decide +kernel
theorem dX7_goAgain_17 : decode cX7_goAgain 17 = .ok (.if_icmp .ge 28, 3) := by decide +kernel
theorem dX7_goAgain_20 : decode cX7_goAgain 20 = .ok (.aload_n 1, 1) := by decide +kernel
theorem dX7_goAgain_21 : decode cX7_goAgain 21 = .ok (.getfield 246, 3) := by decide +kernel
theorem dX7_goAgain_24 : decode cX7_goAgain 24 = .ok (.aload_n 2, 1) := by decide +kernel
theorem dX7_goAgain_25 : decode cX7_goAgain 25 = .ok (.getfield 250, 3) := by decide +kernel
theorem dX7_goAgain_28 : decode cX7_goAgain 28 = .ok (.iload_n 3, 1) := by decide +kernel
theorem dX7_goAgain_29 : decode cX7_goAgain 29 = .ok (.iconst 1, 1) := by decide +kernel
theorem dX7_goAgain_30 : decode cX7_goAgain 30 = .ok (.iadd, 1) := by decide +kernel
theorem dX7_goAgain_31 : decode cX7_goAgain 31 = .ok (.invokestatic 255, 3) := by decide +kernel
theorem dX7_goAgain_34 : decode cX7_goAgain 34 = .ok (.aload_n 1, 1) := by decide +kernel
theorem dX7_goAgain_35 : decode cX7_goAgain 35 = .ok (.aload_n 2, 1) := by decide +kernel
theorem dX7_goAgain_36 : decode cX7_goAgain 36 = .ok (.getfield 185, 3) := by decide +kernel
theorem dX7_goAgain_39 : decode cX7_goAgain 39 = .ok (.putfield 110, 3) := by decide +kernel
theorem dX7_goAgain_42 : decode cX7_goAgain 42 = .ok (.goto 15, 3) := by decide +kernel
theorem dX7_goAgain_45 : decode cX7_goAgain 45 = .ok (.aload_n 1, 1) := by decide +kernel
theorem dX7_goAgain_46 : decode cX7_goAgain 46 = .ok (.getfield 246, 3) := by decide +kernel
theorem dX7_goAgain_49 : decode cX7_goAgain 49 = .ok (.aload_n 2, 1) := by decide +kernel
theorem dX7_goAgain_50 : decode cX7_goAgain 50 = .ok (.getfield 250, 3) := by decide +kernel
theorem dX7_goAgain_53 : decode cX7_goAgain 53 = .ok (.iconst 0, 1) := by decide +kernel
theorem dX7_goAgain_54 : decode cX7_goAgain 54 = .ok (.invokestatic 255, 3) := by decide +kernel
theorem dX7_goAgain_57 : decode cX7_goAgain 57 = .ok (.return_, 1) := by decide +kernel
theorem dX7_skip_0 : decode cX7_skip 0 = .ok (.aload_n 2, 1) := by decide +kernel
theorem dX7_skip_1 : decode cX7_skip 1 = .ok (.ifnull 21, 3) := by decide +kernel
theorem dX7_skip_4 : decode cX7_skip 4 = .ok (.aload_n 2, 1) := by decide +kernel
theorem dX7_skip_5 : decode cX7_skip 5 = .ok (.getfield 147, 3) := by decide +kernel
theorem dX7_skip_8 : decode cX7_skip 8 = .ok (.iload_n 3, 1) := by decide +kernel
theorem dX7_skip_9 : decode cX7_skip 9 = .ok (.if_icmp .ge 13, 3) := by decide +kernel
theorem dX7_skip_12 : decode cX7_skip 12 = .ok (.aload_n 1, 1) := by decide +kernel
theorem dX7_skip_13 : decode cX7_skip 13 = .ok (.dup, 1) := by decide +kernel
theorem dX7_skip_14 : decode cX7_skip 14 = .ok (.getfield 110, 3) := by decide +kernel
theorem dX7_skip_17 : decode cX7_skip 17 = .ok (.iconst 1, 1) := by decide +kernel
theorem dX7_skip_18 : decode cX7_skip 18 = .ok (.iadd, 1) := by decide +kernel
theorem dX7_skip_19 : decode cX7_skip 19 = .ok (.putfield 110, 3) := by decide +kernel
theorem dX7_skip_22 : decode cX7_skip 22 = .ok (.return_, 1) := by decide +kernel
theorem dX7_enter_0 : decode cX7_enter 0 = .ok (.aload_n 0, 1) := by decide +kernel
theorem dX7_enter_1 : decode cX7_enter 1 = .ok (.dup, 1) := by decide +kernel
theorem dX7_enter_2 : decode cX7_enter 2 = .ok (.getfield 49, 3) := by decide +kernel
theorem dX7_enter_5 : decode cX7_enter 5 = .ok (.iconst 1, 1) := by decide +kernel
theorem dX7_enter_6 : decode cX7_enter 6 = .ok (.iadd, 1) := by decide +kernel
theorem dX7_enter_7 : decode cX7_enter 7 = .ok (.putfield 49, 3) := by decide +kernel
theorem dX7_enter_10 : decode cX7_enter 10 = .ok (.aload_n 1, 1) := by decide +kernel
theorem dX7_enter_11 : decode cX7_enter 11 = .ok (.iload_n 2, 1) := by decide +kernel
theorem dX7_enter_12 : decode cX7_enter 12 = .ok (.putfield 240, 3) := by decide +kernel
theorem dX7_enter_15 : decode cX7_enter 15 = .ok (.aload_n 1, 1) := by decide +kernel
theorem dX7_enter_16 : decode cX7_enter 16 = .ok (.iconst 0, 1) := by decide +kernel
theorem dX7_enter_17 : decode cX7_enter 17 = .ok (.putfield 259, 3) := by decide +kernel
theorem dX7_enter_20 : decode cX7_enter 20 = .ok (.aload_n 1, 1) := by decide +kernel
theorem dX7_enter_21 : decode cX7_enter 21 = .ok (.aload_n 0, 1) := by decide +kernel
theorem dX7_enter_22 : decode cX7_enter 22 = .ok (.getfield 49, 3) := by decide +kernel
theorem dX7_enter_25 : decode cX7_enter 25 = .ok (.putfield 262, 3) := by decide +kernel
theorem dX7_enter_28 : decode cX7_enter 28 = .ok (.aload_n 1, 1) := by decide +kernel
theorem dX7_enter_29 : decode cX7_enter 29 = .ok (.iload_n 3, 1) := by decide +kernel
theorem dX7_enter_30 : decode cX7_enter 30 = .ok (.putfield 92, 3) := by decide +kernel
theorem dX7_enter_33 : decode cX7_enter 33 = .ok (.return_, 1) := by decide +kernel
theorem dX7_leave_0 : decode cX7_leave 0 = .ok (.aload_n 1, 1) := by decide +kernel
theorem dX7_leave_1 : decode cX7_leave 1 = .ok (.getfield 240, 3) := by decide +kernel
theorem dX7_leave_4 : decode cX7_leave 4 = .ok (.istore_n 2, 1) := by decide +kernel
theorem dX7_leave_5 : decode cX7_leave 5 = .ok (.aload_n 1, 1) := by decide +kernel
theorem dX7_leave_6 : decode cX7_leave 6 = .ok (.iconst (-1), 1) := by decide +kernel
theorem dX7_leave_7 : decode cX7_leave 7 = .ok (.putfield 240, 3) := by decide +kernel
theorem dX7_leave_10 : decode cX7_leave 10 = .ok (.aload_n 0, 1) := by decide +kernel
theorem dX7_leave_11 : decode cX7_leave 11 = .ok (.aload_n 0, 1) := by decide +kernel
theorem dX7_leave_12 : decode cX7_leave 12 = .ok (.iload_n 2, 1) := by decide +kernel
theorem dX7_leave_13 : decode cX7_leave 13 = .ok (.invokevirtual 194, 3) := by decide +kernel
theorem dX7_leave_16 : decode cX7_leave 16 = .ok (.invokevirtual 265, 3) := by decide +kernel
theorem dX7_leave_19 : decode cX7_leave 19 = .ok (.aload_n 0, 1) := by decide +kernel
theorem dX7_leave_20 : decode cX7_leave 20 = .ok (.iload_n 2, 1) := by decide +kernel
theorem dX7_leave_21 : decode cX7_leave 21 = .ok (.bipush 10, 2) := by decide +kernel
theorem dX7_leave_23 : decode cX7_leave 23 = .ok (.if_icmp .ge 14, 3) := by decide +kernel
theorem dX7_leave_26 : decode cX7_leave 26 = .ok (.aload_n 0, 1) := by decide +kernel
theorem dX7_leave_27 : decode cX7_leave 27 = .ok (.iload_n 2, 1) := by decide +kernel
theorem dX7_leave_28 : decode cX7_leave 28 = .ok (.bipush 6, 2) := by decide +kernel
theorem dX7_leave_30 : decode cX7_leave 30 = .ok (.isub, 1) := by decide +kernel
theorem dX7_leave_31 : decode cX7_leave 31 = .ok (.invokevirtual 201, 3) := by decide +kernel
theorem dX7_leave_34 : decode cX7_leave 34 = .ok (.goto 11, 3) := by decide +kernel
theorem dX7_leave_37 : decode cX7_leave 37 = .ok (.aload_n 0, 1) := by decide +kernel
theorem dX7_leave_38 : decode cX7_leave 38 = .ok (.iload_n 2, 1) := by decide +kernel
theorem dX7_leave_39 : decode cX7_leave 39 = .ok (.bipush 10, 2) := by decide +kernel
theorem dX7_leave_41 : decode cX7_leave 41 = .ok (.isub, 1) := by decide +kernel
theorem dX7_leave_42 : decode cX7_leave 42 = .ok (.invokevirtual 201, 3) := by decide +kernel
theorem dX7_leave_45 : decode cX7_leave 45 = .ok (.invokevirtual 268, 3) := by decide +kernel
theorem dX7_leave_48 : decode cX7_leave 48 = .ok (.return_, 1) := by decide +kernel
theorem dX7_countIn_0 : decode cX7_countIn 0 = .ok (.iconst 0, 1) := by decide +kernel
theorem dX7_countIn_1 : decode cX7_countIn 1 = .ok (.istore_n 2, 1) := by decide +kernel
theorem dX7_countIn_2 : decode cX7_countIn 2 = .ok (.aload_n 0, 1) := by decide +kernel
theorem dX7_countIn_3 : decode cX7_countIn 3 = .ok (.getfield 23, 3) := by decide +kernel
theorem dX7_countIn_6 : decode cX7_countIn 6 = .ok (.astore_n 3, 1) := by decide +kernel
theorem dX7_countIn_7 : decode cX7_countIn 7 = .ok (.aload_n 3, 1) := by decide +kernel
theorem dX7_countIn_8 : decode cX7_countIn 8 = .ok (.arraylength, 1) := by decide +kernel
theorem dX7_countIn_9 : decode cX7_countIn 9 = .ok (.istore 4, 2) := by decide +kernel
theorem dX7_countIn_11 : decode cX7_countIn 11 = .ok (.iconst 0, 1) := by decide +kernel
theorem dX7_countIn_12 : decode cX7_countIn 12 = .ok (.istore 5, 2) := by decide +kernel
theorem dX7_countIn_14 : decode cX7_countIn 14 = .ok (.iload 5, 2) := by decide +kernel
theorem dX7_countIn_16 : decode cX7_countIn 16 = .ok (.iload 4, 2) := by decide +kernel
theorem dX7_countIn_18 : decode cX7_countIn 18 = .ok (.if_icmp .ge 27, 3) := by decide +kernel
theorem dX7_countIn_21 : decode cX7_countIn 21 = .ok (.aload_n 3, 1) := by decide +kernel
theorem dX7_countIn_22 : decode cX7_countIn 22 = .ok (.iload 5, 2) := by decide +kernel
theorem dX7_countIn_24 : decode cX7_countIn 24 = .ok (.aaload, 1) := by decide +kernel
theorem dX7_countIn_25 : decode cX7_countIn 25 = .ok (.astore 6, 2) := by decide +kernel
theorem dX7_countIn_27 : decode cX7_countIn 27 = .ok (.aload 6, 2) := by decide +kernel
theorem dX7_countIn_29 : decode cX7_countIn 29 = .ok (.getfield 240, 3) := by decide +kernel
theorem dX7_countIn_32 : decode cX7_countIn 32 = .ok (.iload_n 1, 1) := by decide +kernel
theorem dX7_countIn_33 : decode cX7_countIn 33 = .ok (.if_icmp .ne 6, 3) := by decide +kernel
theorem dX7_countIn_36 : decode cX7_countIn 36 = .ok (.iinc 2 1, 3) := by decide +kernel
theorem dX7_countIn_39 : decode cX7_countIn 39 = .ok (.iinc 5 1, 3) := by decide +kernel
theorem dX7_countIn_42 : decode cX7_countIn 42 = .ok (.goto (-28), 3) := by decide +kernel
theorem dX7_countIn_45 : decode cX7_countIn 45 = .ok (.iload_n 2, 1) := by decide +kernel
theorem dX7_countIn_46 : decode cX7_countIn 46 = .ok (.ireturn, 1) := by decide +kernel
theorem dX7_firstIn_0 : decode cX7_firstIn 0 = .ok (.aconst_null, 1) := by decide +kernel
theorem dX7_firstIn_1 : decode cX7_firstIn 1 = .ok (.astore_n 2, 1) := by decide +kernel
theorem dX7_firstIn_2 : decode cX7_firstIn 2 = .ok (.aload_n 0, 1) := by decide +kernel
theorem dX7_firstIn_3 : decode cX7_firstIn 3 = .ok (.getfield 23, 3) := by decide +kernel
theorem dX7_firstIn_6 : decode cX7_firstIn 6 = .ok (.astore_n 3, 1) := by decide +kernel
theorem dX7_firstIn_7 : decode cX7_firstIn 7 = .ok (.aload_n 3, 1) := by decide +kernel
theorem dX7_firstIn_8 : decode cX7_firstIn 8 = .ok (.arraylength, 1) := by decide +kernel
theorem dX7_firstIn_9 : decode cX7_firstIn 9 = .ok (.istore 4, 2) := by decide +kernel
theorem dX7_firstIn_11 : decode cX7_firstIn 11 = .ok (.iconst 0, 1) := by decide +kernel
theorem dX7_firstIn_12 : decode cX7_firstIn 12 = .ok (.istore 5, 2) := by decide +kernel
theorem dX7_firstIn_14 : decode cX7_firstIn 14 = .ok (.iload 5, 2) := by decide +kernel
theorem dX7_firstIn_16 : decode cX7_firstIn 16 = .ok (.iload 4, 2) := by decide +kernel
theorem dX7_firstIn_18 : decode cX7_firstIn 18 = .ok (.if_icmp .ge 40, 3) := by decide +kernel
theorem dX7_firstIn_21 : decode cX7_firstIn 21 = .ok (.aload_n 3, 1) := by decide +kernel
theorem dX7_firstIn_22 : decode cX7_firstIn 22 = .ok (.iload 5, 2) := by decide +kernel
theorem dX7_firstIn_24 : decode cX7_firstIn 24 = .ok (.aaload, 1) := by decide +kernel
theorem dX7_firstIn_25 : decode cX7_firstIn 25 = .ok (.astore 6, 2) := by decide +kernel
theorem dX7_firstIn_27 : decode cX7_firstIn 27 = .ok (.aload 6, 2) := by decide +kernel
theorem dX7_firstIn_29 : decode cX7_firstIn 29 = .ok (.getfield 240, 3) := by decide +kernel
theorem dX7_firstIn_32 : decode cX7_firstIn 32 = .ok (.iload_n 1, 1) := by decide +kernel
theorem dX7_firstIn_33 : decode cX7_firstIn 33 = .ok (.if_icmp .ne 19, 3) := by decide +kernel
theorem dX7_firstIn_36 : decode cX7_firstIn 36 = .ok (.aload_n 2, 1) := by decide +kernel
theorem dX7_firstIn_37 : decode cX7_firstIn 37 = .ok (.ifnull 12, 3) := by decide +kernel
theorem dX7_firstIn_40 : decode cX7_firstIn 40 = .ok (.aload 6, 2) := by decide +kernel
theorem dX7_firstIn_42 : decode cX7_firstIn 42 = .ok (.aload_n 2, 1) := by decide +kernel
theorem dX7_firstIn_43 : decode cX7_firstIn 43 = .ok (.invokevirtual 271, 3) := by decide +kernel
theorem dX7_firstIn_46 : decode cX7_firstIn 46 = .ok (.ifCond .eq 6, 3) := by decide +kernel
theorem dX7_firstIn_49 : decode cX7_firstIn 49 = .ok (.aload 6, 2) := by decide +kernel
theorem dX7_firstIn_51 : decode cX7_firstIn 51 = .ok (.astore_n 2, 1) := by decide +kernel
theorem dX7_firstIn_52 : decode cX7_firstIn 52 = .ok (.iinc 5 1, 3) := by decide +kernel
theorem dX7_firstIn_55 : decode cX7_firstIn 55 = .ok (.goto (-41), 3) := by decide +kernel
theorem dX7_firstIn_58 : decode cX7_firstIn 58 = .ok (.aload_n 2, 1) := by decide +kernel
theorem dX7_firstIn_59 : decode cX7_firstIn 59 = .ok (.areturn, 1) := by decide +kernel
theorem dX7_inRowAt_0 : decode cX7_inRowAt 0 = .ok (.aload_n 0, 1) := by decide +kernel
theorem dX7_inRowAt_1 : decode cX7_inRowAt 1 = .ok (.getfield 23, 3) := by decide +kernel
theorem dX7_inRowAt_4 : decode cX7_inRowAt 4 = .ok (.astore_n 3, 1) := by decide +kernel
theorem dX7_inRowAt_5 : decode cX7_inRowAt 5 = .ok (.aload_n 3, 1) := by decide +kernel
theorem dX7_inRowAt_6 : decode cX7_inRowAt 6 = .ok (.arraylength, 1) := by decide +kernel
theorem dX7_inRowAt_7 : decode cX7_inRowAt 7 = .ok (.istore 4, 2) := by decide +kernel
theorem dX7_inRowAt_9 : decode cX7_inRowAt 9 = .ok (.iconst 0, 1) := by decide +kernel
theorem dX7_inRowAt_10 : decode cX7_inRowAt 10 = .ok (.istore 5, 2) := by decide +kernel
theorem dX7_inRowAt_12 : decode cX7_inRowAt 12 = .ok (.iload 5, 2) := by decide +kernel
theorem dX7_inRowAt_14 : decode cX7_inRowAt 14 = .ok (.iload 4, 2) := by decide +kernel
theorem dX7_inRowAt_16 : decode cX7_inRowAt 16 = .ok (.if_icmp .ge 37, 3) := by decide +kernel
theorem dX7_inRowAt_19 : decode cX7_inRowAt 19 = .ok (.aload_n 3, 1) := by decide +kernel
theorem dX7_inRowAt_20 : decode cX7_inRowAt 20 = .ok (.iload 5, 2) := by decide +kernel
theorem dX7_inRowAt_22 : decode cX7_inRowAt 22 = .ok (.aaload, 1) := by decide +kernel
theorem dX7_inRowAt_23 : decode cX7_inRowAt 23 = .ok (.astore 6, 2) := by decide +kernel
theorem dX7_inRowAt_25 : decode cX7_inRowAt 25 = .ok (.aload 6, 2) := by decide +kernel
theorem dX7_inRowAt_27 : decode cX7_inRowAt 27 = .ok (.getfield 240, 3) := by decide +kernel
theorem dX7_inRowAt_30 : decode cX7_inRowAt 30 = .ok (.iload_n 1, 1) := by decide +kernel
theorem dX7_inRowAt_31 : decode cX7_inRowAt 31 = .ok (.if_icmp .ne 16, 3) := by decide +kernel
theorem dX7_inRowAt_34 : decode cX7_inRowAt 34 = .ok (.aload_n 0, 1) := by decide +kernel
theorem dX7_inRowAt_35 : decode cX7_inRowAt 35 = .ok (.aload 6, 2) := by decide +kernel
theorem dX7_inRowAt_37 : decode cX7_inRowAt 37 = .ok (.invokevirtual 274, 3) := by decide +kernel
theorem dX7_inRowAt_40 : decode cX7_inRowAt 40 = .ok (.iload_n 2, 1) := by decide +kernel
theorem dX7_inRowAt_41 : decode cX7_inRowAt 41 = .ok (.if_icmp .ne 6, 3) := by decide +kernel
theorem dX7_inRowAt_44 : decode cX7_inRowAt 44 = .ok (.aload 6, 2) := by decide +kernel
theorem dX7_inRowAt_46 : decode cX7_inRowAt 46 = .ok (.areturn, 1) := by decide +kernel
theorem dX7_inRowAt_47 : decode cX7_inRowAt 47 = .ok (.iinc 5 1, 3) := by decide +kernel
theorem dX7_inRowAt_50 : decode cX7_inRowAt 50 = .ok (.goto (-38), 3) := by decide +kernel
