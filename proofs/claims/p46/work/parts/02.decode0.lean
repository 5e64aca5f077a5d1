theorem dX0_init_0 : decode cX0_init 0 = .ok (.aload_n 0, 1) := by decide +kernel
theorem dX0_init_1 : decode cX0_init 1 = .ok (.invokespecial 3, 3) := by decide +kernel
theorem dX0_init_4 : decode cX0_init 4 = .ok (.aload_n 0, 1) := by decide +kernel
theorem dX0_init_5 : decode cX0_init 5 = .ok (.sipush 512, 3) := by decide +kernel
theorem dX0_init_8 : decode cX0_init 8 = .ok (.newarray .int, 2) := by decide +kernel
theorem dX0_init_10 : decode cX0_init 10 = .ok (.putfield 9, 3) := by decide +kernel
theorem dX0_init_13 : decode cX0_init 13 = .ok (.return_, 1) := by decide +kernel
theorem dX1_init_0 : decode cX1_init 0 = .ok (.aload_n 0, 1) := by decide +kernel
theorem dX1_init_1 : decode cX1_init 1 = .ok (.invokespecial 1, 3) := by decide +kernel
theorem dX1_init_4 : decode cX1_init 4 = .ok (.aload_n 0, 1) := by decide +kernel
theorem dX1_init_5 : decode cX1_init 5 = .ok (.iload_n 1, 1) := by decide +kernel
theorem dX1_init_6 : decode cX1_init 6 = .ok (.putfield 7, 3) := by decide +kernel
theorem dX1_init_9 : decode cX1_init 9 = .ok (.aload_n 0, 1) := by decide +kernel
theorem dX1_init_10 : decode cX1_init 10 = .ok (.iload_n 2, 1) := by decide +kernel
theorem dX1_init_11 : decode cX1_init 11 = .ok (.putfield 13, 3) := by decide +kernel
theorem dX1_init_14 : decode cX1_init 14 = .ok (.aload_n 0, 1) := by decide +kernel
theorem dX1_init_15 : decode cX1_init 15 = .ok (.iload_n 3, 1) := by decide +kernel
theorem dX1_init_16 : decode cX1_init 16 = .ok (.putfield 16, 3) := by decide +kernel
theorem dX1_init_19 : decode cX1_init 19 = .ok (.aload_n 0, 1) := by decide +kernel
theorem dX1_init_20 : decode cX1_init 20 = .ok (.iload 4, 2) := by decide +kernel
theorem dX1_init_22 : decode cX1_init 22 = .ok (.putfield 19, 3) := by decide +kernel
theorem dX1_init_25 : decode cX1_init 25 = .ok (.return_, 1) := by decide +kernel
theorem dX2_init_0 : decode cX2_init 0 = .ok (.aload_n 0, 1) := by decide +kernel
theorem dX2_init_1 : decode cX2_init 1 = .ok (.invokespecial 3, 3) := by decide +kernel
theorem dX2_init_4 : decode cX2_init 4 = .ok (.aload_n 0, 1) := by decide +kernel
theorem dX2_init_5 : decode cX2_init 5 = .ok (.iconst (-1), 1) := by decide +kernel
theorem dX2_init_6 : decode cX2_init 6 = .ok (.putfield 9, 3) := by decide +kernel
theorem dX2_init_9 : decode cX2_init 9 = .ok (.aload_n 0, 1) := by decide +kernel
theorem dX2_init_10 : decode cX2_init 10 = .ok (.iconst (-1), 1) := by decide +kernel
theorem dX2_init_11 : decode cX2_init 11 = .ok (.putfield 15, 3) := by decide +kernel
theorem dX2_init_14 : decode cX2_init 14 = .ok (.aload_n 0, 1) := by decide +kernel
theorem dX2_init_15 : decode cX2_init 15 = .ok (.bipush 16, 2) := by decide +kernel
theorem dX2_init_17 : decode cX2_init 17 = .ok (.newarray .int, 2) := by decide +kernel
theorem dX2_init_19 : decode cX2_init 19 = .ok (.putfield 18, 3) := by decide +kernel
theorem dX2_init_22 : decode cX2_init 22 = .ok (.aload_n 0, 1) := by decide +kernel
theorem dX2_init_23 : decode cX2_init 23 = .ok (.bipush 6, 2) := by decide +kernel
theorem dX2_init_25 : decode cX2_init 25 = .ok (.newarray .int, 2) := by decide +kernel
theorem dX2_init_27 : decode cX2_init 27 = .ok (.putfield 22, 3) := by decide +kernel
theorem dX2_init_30 : decode cX2_init 30 = .ok (.aload_n 0, 1) := by decide +kernel
theorem dX2_init_31 : decode cX2_init 31 = .ok (.bipush 6, 2) := by decide +kernel
theorem dX2_init_33 : decode cX2_init 33 = .ok (.newarray .int, 2) := by decide +kernel
theorem dX2_init_35 : decode cX2_init 35 = .ok (.putfield 25, 3) := by decide +kernel
theorem dX2_init_38 : decode cX2_init 38 = .ok (.aload_n 0, 1) := by decide +kernel
theorem dX2_init_39 : decode cX2_init 39 = .ok (.iload_n 1, 1) := by decide +kernel
theorem dX2_init_40 : decode cX2_init 40 = .ok (.putfield 28, 3) := by decide +kernel
theorem dX2_init_43 : decode cX2_init 43 = .ok (.return_, 1) := by decide +kernel
theorem dX2_copyFrom_0 : decode cX2_copyFrom 0 = .ok (.aload_n 0, 1) := by decide +kernel
theorem dX2_copyFrom_1 : decode cX2_copyFrom 1 = .ok (.aload_n 1, 1) := by decide +kernel
theorem dX2_copyFrom_2 : decode cX2_copyFrom 2 = .ok (.getfield 31, 3) := by decide +kernel
theorem dX2_copyFrom_5 : decode cX2_copyFrom 5 = .ok (.putfield 31, 3) := by decide +kernel
theorem dX2_copyFrom_8 : decode cX2_copyFrom 8 = .ok (.aload_n 0, 1) := by decide +kernel
theorem dX2_copyFrom_9 : decode cX2_copyFrom 9 = .ok (.aload_n 1, 1) := by decide +kernel
theorem dX2_copyFrom_10 : decode cX2_copyFrom 10 = .ok (.getfield 35, 3) := by decide +kernel
theorem dX2_copyFrom_13 : decode cX2_copyFrom 13 = .ok (.putfield 35, 3) := by decide +kernel
theorem dX2_copyFrom_16 : decode cX2_copyFrom 16 = .ok (.aload_n 0, 1) := by decide +kernel
theorem dX2_copyFrom_17 : decode cX2_copyFrom 17 = .ok (.aload_n 1, 1) := by decide +kernel
theorem dX2_copyFrom_18 : decode cX2_copyFrom 18 = .ok (.getfield 38, 3) := by decide +kernel
theorem dX2_copyFrom_21 : decode cX2_copyFrom 21 = .ok (.putfield 38, 3) := by decide +kernel
theorem dX2_copyFrom_24 : decode cX2_copyFrom 24 = .ok (.aload_n 0, 1) := by decide +kernel
theorem dX2_copyFrom_25 : decode cX2_copyFrom 25 = .ok (.aload_n 1, 1) := by decide +kernel
theorem dX2_copyFrom_26 : decode cX2_copyFrom 26 = .ok (.getfield 41, 3) := by decide +kernel
theorem dX2_copyFrom_29 : decode cX2_copyFrom 29 = .ok (.putfield 41, 3) := by decide +kernel
theorem dX2_copyFrom_32 : decode cX2_copyFrom 32 = .ok (.aload_n 0, 1) := by decide +kernel
theorem dX2_copyFrom_33 : decode cX2_copyFrom 33 = .ok (.aload_n 1, 1) := by decide +kernel
theorem dX2_copyFrom_34 : decode cX2_copyFrom 34 = .ok (.getfield 44, 3) := by decide +kernel
theorem dX2_copyFrom_37 : decode cX2_copyFrom 37 = .ok (.putfield 44, 3) := by decide +kernel
theorem dX2_copyFrom_40 : decode cX2_copyFrom 40 = .ok (.aload_n 0, 1) := by decide +kernel
theorem dX2_copyFrom_41 : decode cX2_copyFrom 41 = .ok (.aload_n 1, 1) := by decide +kernel
theorem dX2_copyFrom_42 : decode cX2_copyFrom 42 = .ok (.getfield 47, 3) := by decide +kernel
theorem dX2_copyFrom_45 : decode cX2_copyFrom 45 = .ok (.putfield 47, 3) := by decide +kernel
theorem dX2_copyFrom_48 : decode cX2_copyFrom 48 = .ok (.aload_n 0, 1) := by decide +kernel
theorem dX2_copyFrom_49 : decode cX2_copyFrom 49 = .ok (.aload_n 1, 1) := by decide +kernel
theorem dX2_copyFrom_50 : decode cX2_copyFrom 50 = .ok (.getfield 9, 3) := by decide +kernel
theorem dX2_copyFrom_53 : decode cX2_copyFrom 53 = .ok (.putfield 9, 3) := by decide +kernel
theorem dX2_copyFrom_56 : decode cX2_copyFrom 56 = .ok (.aload_n 0, 1) := by decide +kernel
theorem dX2_copyFrom_57 : decode cX2_copyFrom 57 = .ok (.aload_n 1, 1) := by decide +kernel
theorem dX2_copyFrom_58 : decode cX2_copyFrom 58 = .ok (.getfield 50, 3) := by decide +kernel
theorem dX2_copyFrom_61 : decode cX2_copyFrom 61 = .ok (.putfield 50, 3) := by decide +kernel
theorem dX2_copyFrom_64 : decode cX2_copyFrom 64 = .ok (.aload_n 0, 1) := by decide +kernel
theorem dX2_copyFrom_65 : decode cX2_copyFrom 65 = .ok (.aload_n 1, 1) := by decide +kernel
theorem dX2_copyFrom_66 : decode cX2_copyFrom 66 = .ok (.getfield 15, 3) := by decide +kernel
theorem dX2_copyFrom_69 : decode cX2_copyFrom 69 = .ok (.putfield 15, 3) := by decide +kernel
theorem dX2_copyFrom_72 : decode cX2_copyFrom 72 = .ok (.aload_n 0, 1) := by decide +kernel
theorem dX2_copyFrom_73 : decode cX2_copyFrom 73 = .ok (.aload_n 1, 1) := by decide +kernel
theorem dX2_copyFrom_74 : decode cX2_copyFrom 74 = .ok (.getfield 53, 3) := by decide +kernel
theorem dX2_copyFrom_77 : decode cX2_copyFrom 77 = .ok (.putfield 53, 3) := by decide +kernel
theorem dX2_copyFrom_80 : decode cX2_copyFrom 80 = .ok (.aload_n 0, 1) := by decide +kernel
theorem dX2_copyFrom_81 : decode cX2_copyFrom 81 = .ok (.aload_n 1, 1) := by decide +kernel
theorem dX2_copyFrom_82 : decode cX2_copyFrom 82 = .ok (.getfield 56, 3) := by decide +kernel
theorem dX2_copyFrom_85 : decode cX2_copyFrom 85 = .ok (.putfield 56, 3) := by decide +kernel
theorem dX2_copyFrom_88 : decode cX2_copyFrom 88 = .ok (.aload_n 0, 1) := by decide +kernel
theorem dX2_copyFrom_89 : decode cX2_copyFrom 89 = .ok (.aload_n 1, 1) := by decide +kernel
theorem dX2_copyFrom_90 : decode cX2_copyFrom 90 = .ok (.getfield 59, 3) := by decide +kernel
theorem dX2_copyFrom_93 : decode cX2_copyFrom 93 = .ok (.putfield 59, 3) := by decide +kernel
theorem dX2_copyFrom_96 : decode cX2_copyFrom 96 = .ok (.aload_n 0, 1) := by decide +kernel
theorem dX2_copyFrom_97 : decode cX2_copyFrom 97 = .ok (.aload_n 1, 1) := by decide +kernel
theorem dX2_copyFrom_98 : decode cX2_copyFrom 98 = .ok (.getfield 62, 3) := by decide +kernel
theorem dX2_copyFrom_101 : decode cX2_copyFrom 101 = .ok (.putfield 62, 3) := by decide +kernel
theorem dX2_copyFrom_104 : decode cX2_copyFrom 104 = .ok (.aload_n 1, 1) := by decide +kernel
theorem dX2_copyFrom_105 : decode cX2_copyFrom 105 = .ok (.getfield 18, 3) := by decide +kernel
theorem dX2_copyFrom_108 : decode cX2_copyFrom 108 = .ok (.aload_n 0, 1) := by decide +kernel
theorem dX2_copyFrom_109 : decode cX2_copyFrom 109 = .ok (.getfield 18, 3) := by decide +kernel
theorem dX2_copyFrom_112 : decode cX2_copyFrom 112 = .ok (.invokestatic 66, 3) := by decide +kernel
theorem dX2_copyFrom_115 : decode cX2_copyFrom 115 = .ok (.aload_n 1, 1) := by decide +kernel
theorem dX2_copyFrom_116 : decode cX2_copyFrom 116 = .ok (.getfield 22, 3) := by decide +kernel
theorem dX2_copyFrom_119 : decode cX2_copyFrom 119 = .ok (.aload_n 0, 1) := by decide +kernel
theorem dX2_copyFrom_120 : decode cX2_copyFrom 120 = .ok (.getfield 22, 3) := by decide +kernel
theorem dX2_copyFrom_123 : decode cX2_copyFrom 123 = .ok (.invokestatic 66, 3) := by decide +kernel
theorem dX2_copyFrom_126 : decode cX2_copyFrom 126 = .ok (.aload_n 1, 1) := by decide +kernel
theorem dX2_copyFrom_127 : decode cX2_copyFrom 127 = .ok (.getfield 25, 3) := by decide +kernel
theorem dX2_copyFrom_130 : decode cX2_copyFrom 130 = .ok (.aload_n 0, 1) := by decide +kernel
theorem dX2_copyFrom_131 : decode cX2_copyFrom 131 = .ok (.getfield 25, 3) := by decide +kernel
theorem dX2_copyFrom_134 : decode cX2_copyFrom 134 = .ok (.invokestatic 66, 3) := by decide +kernel
theorem dX2_copyFrom_137 : decode cX2_copyFrom 137 = .ok (.return_, 1) := by decide +kernel
theorem dX2_isOver_0 : decode cX2_isOver 0 = .ok (.aload_n 0, 1) := by decide +kernel
theorem dX2_isOver_1 : decode cX2_isOver 1 = .ok (.getfield 47, 3) := by decide +kernel
theorem dX2_isOver_4 : decode cX2_isOver 4 = .ok (.iconst 5, 1) := by decide +kernel
theorem dX2_isOver_5 : decode cX2_isOver 5 = .ok (.if_icmp .eq 21, 3) := by decide +kernel
theorem dX2_isOver_8 : decode cX2_isOver 8 = .ok (.aload_n 0, 1) := by decide +kernel
theorem dX2_isOver_9 : decode cX2_isOver 9 = .ok (.getfield 47, 3) := by decide +kernel
theorem dX2_isOver_12 : decode cX2_isOver 12 = .ok (.bipush 6, 2) := by decide +kernel
theorem dX2_isOver_14 : decode cX2_isOver 14 = .ok (.if_icmp .eq 12, 3) := by decide +kernel
theorem dX2_isOver_17 : decode cX2_isOver 17 = .ok (.aload_n 0, 1) := by decide +kernel
theorem dX2_isOver_18 : decode cX2_isOver 18 = .ok (.getfield 47, 3) := by decide +kernel
theorem dX2_isOver_21 : decode cX2_isOver 21 = .ok (.bipush 7, 2) := by decide +kernel
theorem dX2_isOver_23 : decode cX2_isOver 23 = .ok (.if_icmp .ne 7, 3) := by decide +kernel
theorem dX2_isOver_26 : decode cX2_isOver 26 = .ok (.iconst 1, 1) := by decide +kernel
theorem dX2_isOver_27 : decode cX2_isOver 27 = .ok (.goto 4, 3) := by decide +kernel
theorem dX2_isOver_30 : decode cX2_isOver 30 = .ok (.iconst 0, 1) := by decide +kernel
theorem dX2_isOver_31 : decode cX2_isOver 31 = .ok (.ireturn, 1) := by decide +kernel
theorem dX2_nextInstruction_0 : decode cX2_nextInstruction 0 = .ok (.aload_n 0, 1) := by decide +kernel
theorem dX2_nextInstruction_1 : decode cX2_nextInstruction 1 = .ok (.getfield 31, 3) := by decide +kernel
theorem dX2_nextInstruction_4 : decode cX2_nextInstruction 4 = .ok (.ifnonnull 7, 3) := by decide +kernel
theorem dX2_nextInstruction_7 : decode cX2_nextInstruction 7 = .ok (.aconst_null, 1) := by decide +kernel
theorem dX2_nextInstruction_8 : decode cX2_nextInstruction 8 = .ok (.goto 14, 3) := by decide +kernel
theorem dX2_nextInstruction_11 : decode cX2_nextInstruction 11 = .ok (.aload_n 0, 1) := by decide +kernel
theorem dX2_nextInstruction_12 : decode cX2_nextInstruction 12 = .ok (.getfield 31, 3) := by decide +kernel
theorem dX2_nextInstruction_15 : decode cX2_nextInstruction 15 = .ok (.aload_n 0, 1) := by decide +kernel
theorem dX2_nextInstruction_16 : decode cX2_nextInstruction 16 = .ok (.getfield 38, 3) := by decide +kernel
theorem dX2_nextInstruction_19 : decode cX2_nextInstruction 19 = .ok (.invokevirtual 70, 3) := by decide +kernel
theorem dX2_nextInstruction_22 : decode cX2_nextInstruction 22 = .ok (.areturn, 1) := by decide +kernel
theorem dX2_goesBefore_0 : decode cX2_goesBefore 0 = .ok (.aload_n 0, 1) := by decide +kernel
theorem dX2_goesBefore_1 : decode cX2_goesBefore 1 = .ok (.getfield 9, 3) := by decide +kernel
theorem dX2_goesBefore_4 : decode cX2_goesBefore 4 = .ok (.aload_n 1, 1) := by decide +kernel
theorem dX2_goesBefore_5 : decode cX2_goesBefore 5 = .ok (.getfield 9, 3) := by decide +kernel
theorem dX2_goesBefore_8 : decode cX2_goesBefore 8 = .ok (.if_icmp .lt 25, 3) := by decide +kernel
theorem dX2_goesBefore_11 : decode cX2_goesBefore 11 = .ok (.aload_n 0, 1) := by decide +kernel
theorem dX2_goesBefore_12 : decode cX2_goesBefore 12 = .ok (.getfield 9, 3) := by decide +kernel
theorem dX2_goesBefore_15 : decode cX2_goesBefore 15 = .ok (.aload_n 1, 1) := by decide +kernel
theorem dX2_goesBefore_16 : decode cX2_goesBefore 16 = .ok (.getfield 9, 3) := by decide +kernel
theorem dX2_goesBefore_19 : decode cX2_goesBefore 19 = .ok (.if_icmp .ne 18, 3) := by decide +kernel
theorem dX2_goesBefore_22 : decode cX2_goesBefore 22 = .ok (.aload_n 0, 1) := by decide +kernel
theorem dX2_goesBefore_23 : decode cX2_goesBefore 23 = .ok (.getfield 50, 3) := by decide +kernel
theorem dX2_goesBefore_26 : decode cX2_goesBefore 26 = .ok (.aload_n 1, 1) := by decide +kernel
theorem dX2_goesBefore_27 : decode cX2_goesBefore 27 = .ok (.getfield 50, 3) := by decide +kernel
theorem dX2_goesBefore_30 : decode cX2_goesBefore 30 = .ok (.if_icmp .ge 7, 3) := by decide +kernel
theorem dX2_goesBefore_33 : decode cX2_goesBefore 33 = .ok (.iconst 1, 1) := by decide +kernel
theorem dX2_goesBefore_34 : decode cX2_goesBefore 34 = .ok (.goto 4, 3) := by decide +kernel
theorem dX2_goesBefore_37 : decode cX2_goesBefore 37 = .ok (.iconst 0, 1) := by decide +kernel
theorem dX2_goesBefore_38 : decode cX2_goesBefore 38 = .ok (.ireturn, 1) := by decide +kernel
theorem dX2_standsBefore_0 : decode cX2_standsBefore 0 = .ok (.aload_n 0, 1) := by decide +kernel
theorem dX2_standsBefore_1 : decode cX2_standsBefore 1 = .ok (.getfield 53, 3) := by decide +kernel
theorem dX2_standsBefore_4 : decode cX2_standsBefore 4 = .ok (.aload_n 1, 1) := by decide +kernel
theorem dX2_standsBefore_5 : decode cX2_standsBefore 5 = .ok (.getfield 53, 3) := by decide +kernel
theorem dX2_standsBefore_8 : decode cX2_standsBefore 8 = .ok (.if_icmp .lt 25, 3) := by decide +kernel
theorem dX2_standsBefore_11 : decode cX2_standsBefore 11 = .ok (.aload_n 0, 1) := by decide +kernel
theorem dX2_standsBefore_12 : decode cX2_standsBefore 12 = .ok (.getfield 53, 3) := by decide +kernel
theorem dX2_standsBefore_15 : decode cX2_standsBefore 15 = .ok (.aload_n 1, 1) := by decide +kernel
theorem dX2_standsBefore_16 : decode cX2_standsBefore 16 = .ok (.getfield 53, 3) := by decide +kernel
theorem dX2_standsBefore_19 : decode cX2_standsBefore 19 = .ok (.if_icmp .ne 18, 3) := by decide +kernel
theorem dX2_standsBefore_22 : decode cX2_standsBefore 22 = .ok (.aload_n 0, 1) := by decide +kernel
theorem dX2_standsBefore_23 : decode cX2_standsBefore 23 = .ok (.getfield 56, 3) := by decide +kernel
theorem dX2_standsBefore_26 : decode cX2_standsBefore 26 = .ok (.aload_n 1, 1) := by decide +kernel
theorem dX2_standsBefore_27 : decode cX2_standsBefore 27 = .ok (.getfield 56, 3) := by decide +kernel
theorem dX2_standsBefore_30 : decode cX2_standsBefore 30 = .ok (.if_icmp .ge 7, 3) := by decide +kernel
theorem dX2_standsBefore_33 : decode cX2_standsBefore 33 = .ok (.iconst 1, 1) := by decide +kernel
theorem dX2_standsBefore_34 : decode cX2_standsBefore 34 = .ok (.goto 4, 3) := by decide +kernel
theorem dX2_standsBefore_37 : decode cX2_standsBefore 37 = .ok (.iconst 0, 1) := by decide +kernel
theorem dX2_standsBefore_38 : decode cX2_standsBefore 38 = .ok (.ireturn, 1) := by decide +kernel
theorem dX2_yieldsBefore_0 : decode cX2_yieldsBefore 0 = .ok (.aload_n 0, 1) := by decide +kernel
theorem dX2_yieldsBefore_1 : decode cX2_yieldsBefore 1 = .ok (.getfield 35, 3) := by decide +kernel
theorem dX2_yieldsBefore_4 : decode cX2_yieldsBefore 4 = .ok (.aload_n 1, 1) := by decide +kernel
theorem dX2_yieldsBefore_5 : decode cX2_yieldsBefore 5 = .ok (.getfield 35, 3) := by decide +kernel
theorem dX2_yieldsBefore_8 : decode cX2_yieldsBefore 8 = .ok (.if_icmp .gt 33, 3) := by decide +kernel
theorem dX2_yieldsBefore_11 : decode cX2_yieldsBefore 11 = .ok (.aload_n 0, 1) := by decide +kernel
theorem dX2_yieldsBefore_12 : decode cX2_yieldsBefore 12 = .ok (.getfield 35, 3) := by decide +kernel
theorem dX2_yieldsBefore_15 : decode cX2_yieldsBefore 15 = .ok (.aload_n 1, 1) := by decide +kernel
theorem dX2_yieldsBefore_16 : decode cX2_yieldsBefore 16 = .ok (.getfield 35, 3) := by decide +kernel
theorem dX2_yieldsBefore_19 : decode cX2_yieldsBefore 19 = .ok (.if_icmp .ne 26, 3) := by decide +kernel
theorem dX2_yieldsBefore_22 : decode cX2_yieldsBefore 22 = .ok (.aload_n 0, 1) := by decide +kernel
theorem dX2_yieldsBefore_23 : decode cX2_yieldsBefore 23 = .ok (.getfield 25, 3) := by decide +kernel
theorem dX2_yieldsBefore_26 : decode cX2_yieldsBefore 26 = .ok (.iload_n 2, 1) := by decide +kernel
theorem dX2_yieldsBefore_27 : decode cX2_yieldsBefore 27 = .ok (.invokestatic 76, 3) := by decide +kernel
theorem dX2_yieldsBefore_30 : decode cX2_yieldsBefore 30 = .ok (.aload_n 1, 1) := by decide +kernel
theorem dX2_yieldsBefore_31 : decode cX2_yieldsBefore 31 = .ok (.getfield 25, 3) := by decide +kernel
theorem dX2_yieldsBefore_34 : decode cX2_yieldsBefore 34 = .ok (.iload_n 2, 1) := by decide +kernel
theorem dX2_yieldsBefore_35 : decode cX2_yieldsBefore 35 = .ok (.invokestatic 76, 3) := by decide +kernel
theorem dX2_yieldsBefore_38 : decode cX2_yieldsBefore 38 = .ok (.if_icmp .le 7, 3) := by decide +kernel
theorem dX2_yieldsBefore_41 : decode cX2_yieldsBefore 41 = .ok (.iconst 1, 1) := by decide +kernel
theorem dX2_yieldsBefore_42 : decode cX2_yieldsBefore 42 = .ok (.goto 4, 3) := by decide +kernel
theorem dX2_yieldsBefore_45 : decode cX2_yieldsBefore 45 = .ok (.iconst 0, 1) := by decide +kernel
theorem dX2_yieldsBefore_46 : decode cX2_yieldsBefore 46 = .ok (.ireturn, 1) := by decide +kernel
theorem dX2_heldInAll_0 : decode cX2_heldInAll 0 = .ok (.iconst 0, 1) := by decide +kernel
theorem dX2_heldInAll_1 : decode cX2_heldInAll 1 = .ok (.istore_n 1, 1) := by decide +kernel
theorem dX2_heldInAll_2 : decode cX2_heldInAll 2 = .ok (.aload_n 0, 1) := by decide +kernel
theorem dX2_heldInAll_3 : decode cX2_heldInAll 3 = .ok (.getfield 22, 3) := by decide +kernel
theorem dX2_heldInAll_6 : decode cX2_heldInAll 6 = .ok (.astore_n 2, 1) := by decide +kernel
theorem dX2_heldInAll_7 : decode cX2_heldInAll 7 = .ok (.aload_n 2, 1) := by decide +kernel
theorem dX2_heldInAll_8 : decode cX2_heldInAll 8 = .ok (.arraylength, 1) := by decide +kernel
theorem dX2_heldInAll_9 : decode cX2_heldInAll 9 = .ok (.istore_n 3, 1) := by decide +kernel
theorem dX2_heldInAll_10 : decode cX2_heldInAll 10 = .ok (.iconst 0, 1) := by decide +kernel
theorem dX2_heldInAll_11 : decode cX2_heldInAll 11 = .ok (.istore 4, 2) := by decide +kernel
theorem dX2_heldInAll_13 : decode cX2_heldInAll 13 = .ok (.iload 4, 2) := by decide +kernel
theorem dX2_heldInAll_15 : decode cX2_heldInAll 15 = .ok (.iload_n 3, 1) := by decide +kernel
theorem dX2_heldInAll_16 : decode cX2_heldInAll 16 = .ok (.if_icmp .ge 20, 3) := by decide +kernel
theorem dX2_heldInAll_19 : decode cX2_heldInAll 19 = .ok (.aload_n 2, 1) := by decide +kernel
theorem dX2_heldInAll_20 : decode cX2_heldInAll 20 = .ok (.iload 4, 2) := by decide +kernel
theorem dX2_heldInAll_22 : decode cX2_heldInAll 22 = .ok (.iaload, 1) := by decide +kernel
theorem dX2_heldInAll_23 : decode cX2_heldInAll 23 = .ok (.istore 5, 2) := by decide +kernel
theorem dX2_heldInAll_25 : decode cX2_heldInAll 25 = .ok (.iload_n 1, 1) := by decide +kernel
theorem dX2_heldInAll_26 : decode cX2_heldInAll 26 = .ok (.iload 5, 2) := by decide +kernel
theorem dX2_heldInAll_28 : decode cX2_heldInAll 28 = .ok (.iadd, 1) := by decide +kernel
theorem dX2_heldInAll_29 : decode cX2_heldInAll 29 = .ok (.istore_n 1, 1) := by decide +kernel
theorem dX2_heldInAll_30 : decode cX2_heldInAll 30 = .ok (.iinc 4 1, 3) := by decide +kernel
theorem dX2_heldInAll_33 : decode cX2_heldInAll 33 = .ok (.goto (-20), 3) := by decide +kernel
theorem dX2_heldInAll_36 : decode cX2_heldInAll 36 = .ok (.iload_n 1, 1) := by decide +kernel
theorem dX2_heldInAll_37 : decode cX2_heldInAll 37 = .ok (.ireturn, 1) := by decide +kernel
theorem dX3_init_0 : decode cX3_init 0 = .ok (.aload_n 0, 1) := by decide +kernel
theorem dX3_init_1 : decode cX3_init 1 = .ok (.invokespecial 1, 3) := by decide +kernel
theorem dX3_init_4 : decode cX3_init 4 = .ok (.aload_n 0, 1) := by decide +kernel
theorem dX3_init_5 : decode cX3_init 5 = .ok (.iload_n 1, 1) := by decide +kernel
theorem dX3_init_6 : decode cX3_init 6 = .ok (.putfield 7, 3) := by decide +kernel
theorem dX3_init_9 : decode cX3_init 9 = .ok (.aload_n 0, 1) := by decide +kernel
theorem dX3_init_10 : decode cX3_init 10 = .ok (.iload_n 2, 1) := by decide +kernel
theorem dX3_init_11 : decode cX3_init 11 = .ok (.putfield 13, 3) := by decide +kernel
theorem dX3_init_14 : decode cX3_init 14 = .ok (.aload_n 0, 1) := by decide +kernel
theorem dX3_init_15 : decode cX3_init 15 = .ok (.iload_n 3, 1) := by decide +kernel
theorem dX3_init_16 : decode cX3_init 16 = .ok (.putfield 16, 3) := by decide +kernel
theorem dX3_init_19 : decode cX3_init 19 = .ok (.aload_n 0, 1) := by decide +kernel
theorem dX3_init_20 : decode cX3_init 20 = .ok (.iload_n 3, 1) := by decide +kernel
theorem dX3_init_21 : decode cX3_init 21 = .ok (.putfield 19, 3) := by decide +kernel
theorem dX3_init_24 : decode cX3_init 24 = .ok (.return_, 1) := by decide +kernel
theorem dX3_copyFrom_0 : decode cX3_copyFrom 0 = .ok (.aload_n 0, 1) := by decide +kernel
theorem dX3_copyFrom_1 : decode cX3_copyFrom 1 = .ok (.aload_n 1, 1) := by decide +kernel
theorem dX3_copyFrom_2 : decode cX3_copyFrom 2 = .ok (.getfield 19, 3) := by decide +kernel
theorem dX3_copyFrom_5 : decode cX3_copyFrom 5 = .ok (.putfield 19, 3) := by decide +kernel
theorem dX3_copyFrom_8 : decode cX3_copyFrom 8 = .ok (.aload_n 0, 1) := by decide +kernel
theorem dX3_copyFrom_9 : decode cX3_copyFrom 9 = .ok (.aload_n 1, 1) := by decide +kernel
theorem dX3_copyFrom_10 : decode cX3_copyFrom 10 = .ok (.getfield 22, 3) := by decide +kernel
theorem dX3_copyFrom_13 : decode cX3_copyFrom 13 = .ok (.putfield 22, 3) := by decide +kernel
theorem dX3_copyFrom_16 : decode cX3_copyFrom 16 = .ok (.aload_n 0, 1) := by decide +kernel
theorem dX3_copyFrom_17 : decode cX3_copyFrom 17 = .ok (.aload_n 1, 1) := by decide +kernel
theorem dX3_copyFrom_18 : decode cX3_copyFrom 18 = .ok (.getfield 25, 3) := by decide +kernel
theorem dX3_copyFrom_21 : decode cX3_copyFrom 21 = .ok (.putfield 25, 3) := by decide +kernel
theorem dX3_copyFrom_24 : decode cX3_copyFrom 24 = .ok (.aload_n 0, 1) := by decide +kernel
theorem dX3_copyFrom_25 : decode cX3_copyFrom 25 = .ok (.aload_n 1, 1) := by decide +kernel
theorem dX3_copyFrom_26 : decode cX3_copyFrom 26 = .ok (.getfield 28, 3) := by decide +kernel
theorem dX3_copyFrom_29 : decode cX3_copyFrom 29 = .ok (.putfield 28, 3) := by decide +kernel
theorem dX3_copyFrom_32 : decode cX3_copyFrom 32 = .ok (.return_, 1) := by decide +kernel
theorem dX4_init_0 : decode cX4_init 0 = .ok (.aload_n 0, 1) := by decide +kernel
theorem dX4_init_1 : decode cX4_init 1 = .ok (.invokespecial 3, 3) := by decide +kernel
theorem dX4_init_4 : decode cX4_init 4 = .ok (.aload_n 0, 1) := by decide +kernel
theorem dX4_init_5 : decode cX4_init 5 = .ok (.new 9, 3) := by decide +kernel
theorem dX4_init_8 : decode cX4_init 8 = .ok (.dup, 1) := by decide +kernel
theorem dX4_init_9 : decode cX4_init 9 = .ok (.invokespecial 11, 3) := by decide +kernel
theorem dX4_init_12 : decode cX4_init 12 = .ok (.putfield 12, 3) := by decide +kernel
theorem dX4_init_15 : decode cX4_init 15 = .ok (.aload_n 0, 1) := by decide +kernel
theorem dX4_init_16 : decode cX4_init 16 = .ok (.iconst (-1), 1) := by decide +kernel
theorem dX4_init_17 : decode cX4_init 17 = .ok (.putfield 18, 3) := by decide +kernel
theorem dX4_init_20 : decode cX4_init 20 = .ok (.return_, 1) := by decide +kernel
theorem dX4_instructionAt_0 : decode cX4_instructionAt 0 = .ok (.iload_n 1, 1) := by decide +kernel
theorem dX4_instructionAt_1 : decode cX4_instructionAt 1 = .ok (.ifCond .lt 28, 3) := by decide +kernel
theorem dX4_instructionAt_4 : decode cX4_instructionAt 4 = .ok (.iload_n 1, 1) := by decide +kernel
theorem dX4_instructionAt_5 : decode cX4_instructionAt 5 = .ok (.aload_n 0, 1) := by decide +kernel
theorem dX4_instructionAt_6 : decode cX4_instructionAt 6 = .ok (.getfield 12, 3) := by decide +kernel
theorem dX4_instructionAt_9 : decode cX4_instructionAt 9 = .ok (.invokevirtual 22, 3) := by decide +kernel
theorem dX4_instructionAt_12 : decode cX4_instructionAt 12 = .ok (.if_icmp .ge 17, 3) := by decide +kernel
theorem dX4_instructionAt_15 : decode cX4_instructionAt 15 = .ok (.aload_n 0, 1) := by decide +kernel
theorem dX4_instructionAt_16 : decode cX4_instructionAt 16 = .ok (.getfield 12, 3) := by decide +kernel
theorem dX4_instructionAt_19 : decode cX4_instructionAt 19 = .ok (.iload_n 1, 1) := by decide +kernel
theorem dX4_instructionAt_20 : decode cX4_instructionAt 20 = .ok (.invokevirtual 26, 3) := by decide +kernel
theorem dX4_instructionAt_23 : decode cX4_instructionAt 23 = .ok (.checkcast 30, 3) := by decide +kernel
theorem dX4_instructionAt_26 : decode cX4_instructionAt 26 = .ok (.goto 4, 3) := by decide +kernel
theorem dX4_instructionAt_29 : decode cX4_instructionAt 29 = .ok (.aconst_null, 1) := by decide +kernel
theorem dX4_instructionAt_30 : decode cX4_instructionAt 30 = .ok (.areturn, 1) := by decide +kernel
theorem dX5_init_0 : decode cX5_init 0 = .ok (.aload_n 0, 1) := by decide +kernel
theorem dX5_init_1 : decode cX5_init 1 = .ok (.invokespecial 3, 3) := by decide +kernel
theorem dX5_init_4 : decode cX5_init 4 = .ok (.aload_n 0, 1) := by decide +kernel
theorem dX5_init_5 : decode cX5_init 5 = .ok (.iload_n 1, 1) := by decide +kernel
theorem dX5_init_6 : decode cX5_init 6 = .ok (.putfield 9, 3) := by decide +kernel
theorem dX5_init_9 : decode cX5_init 9 = .ok (.aload_n 0, 1) := by decide +kernel
theorem dX5_init_10 : decode cX5_init 10 = .ok (.iload_n 2, 1) := by decide +kernel
theorem dX5_init_11 : decode cX5_init 11 = .ok (.putfield 15, 3) := by decide +kernel
theorem dX5_init_14 : decode cX5_init 14 = .ok (.aload_n 0, 1) := by decide +kernel
theorem dX5_init_15 : decode cX5_init 15 = .ok (.iload_n 3, 1) := by decide +kernel
theorem dX5_init_16 : decode cX5_init 16 = .ok (.putfield 18, 3) := by decide +kernel
theorem dX5_init_19 : decode cX5_init 19 = .ok (.return_, 1) := by decide +kernel
theorem dX5_copyFrom_0 : decode cX5_copyFrom 0 = .ok (.aload_n 0, 1) := by decide +kernel
theorem dX5_copyFrom_1 : decode cX5_copyFrom 1 = .ok (.aload_n 1, 1) := by decide +kernel
theorem dX5_copyFrom_2 : decode cX5_copyFrom 2 = .ok (.getfield 18, 3) := by decide +kernel
theorem dX5_copyFrom_5 : decode cX5_copyFrom 5 = .ok (.putfield 18, 3) := by decide +kernel
theorem dX5_copyFrom_8 : decode cX5_copyFrom 8 = .ok (.aload_n 0, 1) := by decide +kernel
theorem dX5_copyFrom_9 : decode cX5_copyFrom 9 = .ok (.aload_n 1, 1) := by decide +kernel
theorem dX5_copyFrom_10 : decode cX5_copyFrom 10 = .ok (.getfield 21, 3) := by decide +kernel
theorem dX5_copyFrom_13 : decode cX5_copyFrom 13 = .ok (.putfield 21, 3) := by decide +kernel
theorem dX5_copyFrom_16 : decode cX5_copyFrom 16 = .ok (.return_, 1) := by decide +kernel
theorem dX5_row_0 : decode cX5_row 0 = .ok (.aload_n 0, 1) := by decide +kernel
theorem dX5_row_1 : decode cX5_row 1 = .ok (.getfield 9, 3) := by decide +kernel
theorem dX5_row_4 : decode cX5_row 4 = .ok (.iload_n 1, 1) := by decide +kernel
theorem dX5_row_5 : decode cX5_row 5 = .ok (.ifCond .eq 8, 3) := by decide +kernel
theorem dX5_row_8 : decode cX5_row 8 = .ok (.bipush 10, 2) := by decide +kernel
theorem dX5_row_10 : decode cX5_row 10 = .ok (.goto 5, 3) := by decide +kernel
theorem dX5_row_13 : decode cX5_row 13 = .ok (.bipush 6, 2) := by decide +kernel
theorem dX5_row_15 : decode cX5_row 15 = .ok (.iadd, 1) := by decide +kernel
theorem dX5_row_16 : decode cX5_row 16 = .ok (.ireturn, 1) := by decide +kernel
theorem dX5_allows_0 : decode cX5_allows 0 = .ok (.aload_n 0, 1) := by decide +kernel
theorem dX5_allows_1 : decode cX5_allows 1 = .ok (.getfield 18, 3) := by decide +kernel
theorem dX5_allows_4 : decode cX5_allows 4 = .ok (.iload_n 1, 1) := by decide +kernel
theorem dX5_allows_5 : decode cX5_allows 5 = .ok (.iadd, 1) := by decide +kernel
theorem dX5_allows_6 : decode cX5_allows 6 = .ok (.iconst 0, 1) := by decide +kernel
theorem dX5_allows_7 : decode cX5_allows 7 = .ok (.aload_n 0, 1) := by decide +kernel
theorem dX5_allows_8 : decode cX5_allows 8 = .ok (.getfield 15, 3) := by decide +kernel
theorem dX5_allows_11 : decode cX5_allows 11 = .ok (.invokestatic 24, 3) := by decide +kernel
theorem dX5_allows_14 : decode cX5_allows 14 = .ok (.ireturn, 1) := by decide +kernel
theorem dX6_init_0 : decode cX6_init 0 = .ok (.aload_n 0, 1) := by decide +kernel
theorem dX6_init_1 : decode cX6_init 1 = .ok (.invokespecial 3, 3) := by decide +kernel
theorem dX6_init_4 : decode cX6_init 4 = .ok (.aload_n 0, 1) := by decide +kernel
theorem dX6_init_5 : decode cX6_init 5 = .ok (.new 9, 3) := by decide +kernel
theorem dX6_init_8 : decode cX6_init 8 = .ok (.dup, 1) := by decide +kernel
theorem dX6_init_9 : decode cX6_init 9 = .ok (.invokespecial 11, 3) := by decide +kernel
theorem dX6_init_12 : decode cX6_init 12 = .ok (.putfield 12, 3) := by decide +kernel
theorem dX6_init_15 : decode cX6_init 15 = .ok (.aload_n 0, 1) := by decide +kernel
theorem dX6_init_16 : decode cX6_init 16 = .ok (.iload_n 1, 1) := by decide +kernel
theorem dX6_init_17 : decode cX6_init 17 = .ok (.putfield 18, 3) := by decide +kernel
theorem dX6_init_20 : decode cX6_init 20 = .ok (.return_, 1) := by decide +kernel
theorem dX6_take_0 : decode cX6_take 0 = .ok (.aload_n 0, 1) := by decide +kernel
theorem dX6_take_1 : decode cX6_take 1 = .ok (.aload_n 0, 1) := by decide +kernel
theorem dX6_take_2 : decode cX6_take 2 = .ok (.getfield 22, 3) := by decide +kernel
theorem dX6_take_5 : decode cX6_take 5 = .ok (.ifCond .ne 7, 3) := by decide +kernel
theorem dX6_take_8 : decode cX6_take 8 = .ok (.iload_n 1, 1) := by decide +kernel
theorem dX6_take_9 : decode cX6_take 9 = .ok (.goto 11, 3) := by decide +kernel
theorem dX6_take_12 : decode cX6_take 12 = .ok (.aload_n 0, 1) := by decide +kernel
theorem dX6_take_13 : decode cX6_take 13 = .ok (.getfield 25, 3) := by decide +kernel
theorem dX6_take_16 : decode cX6_take 16 = .ok (.iload_n 1, 1) := by decide +kernel
theorem dX6_take_17 : decode cX6_take 17 = .ok (.invokestatic 28, 3) := by decide +kernel
theorem dX6_take_20 : decode cX6_take 20 = .ok (.putfield 25, 3) := by decide +kernel
theorem dX6_take_23 : decode cX6_take 23 = .ok (.aload_n 0, 1) := by decide +kernel
theorem dX6_take_24 : decode cX6_take 24 = .ok (.aload_n 0, 1) := by decide +kernel
theorem dX6_take_25 : decode cX6_take 25 = .ok (.getfield 22, 3) := by decide +kernel
theorem dX6_take_28 : decode cX6_take 28 = .ok (.ifCond .ne 7, 3) := by decide +kernel
theorem dX6_take_31 : decode cX6_take 31 = .ok (.iload_n 1, 1) := by decide +kernel
theorem dX6_take_32 : decode cX6_take 32 = .ok (.goto 11, 3) := by decide +kernel
theorem dX6_take_35 : decode cX6_take 35 = .ok (.aload_n 0, 1) := by decide +kernel
theorem dX6_take_36 : decode cX6_take 36 = .ok (.getfield 34, 3) := by decide +kernel
theorem dX6_take_39 : decode cX6_take 39 = .ok (.iload_n 1, 1) := by decide +kernel
theorem dX6_take_40 : decode cX6_take 40 = .ok (.invokestatic 37, 3) := by decide +kernel
theorem dX6_take_43 : decode cX6_take 43 = .ok (.putfield 34, 3) := by decide +kernel
theorem dX6_take_46 : decode cX6_take 46 = .ok (.aload_n 0, 1) := by decide +kernel
theorem dX6_take_47 : decode cX6_take 47 = .ok (.iload_n 1, 1) := by decide +kernel
theorem dX6_take_48 : decode cX6_take 48 = .ok (.putfield 40, 3) := by decide +kernel
theorem dX6_take_51 : decode cX6_take 51 = .ok (.aload_n 0, 1) := by decide +kernel
theorem dX6_take_52 : decode cX6_take 52 = .ok (.dup, 1) := by decide +kernel
theorem dX6_take_53 : decode cX6_take 53 = .ok (.getfield 43, 3) := by decide +kernel
theorem dX6_take_56 : decode cX6_take 56 = .ok (.iload_n 1, 1) := by decide +kernel
theorem dX6_take_57 : decode cX6_take 57 = .ok (.iadd, 1) := by decide +kernel
theorem dX6_take_58 : decode cX6_take 58 = .ok (.putfield 43, 3) := by decide +kernel
theorem dX6_take_61 : decode cX6_take 61 = .ok (.aload_n 0, 1) := by decide +kernel
theorem dX6_take_62 : decode cX6_take 62 = .ok (.dup, 1) := by decide +kernel
theorem dX6_take_63 : decode cX6_take 63 = .ok (.getfield 22, 3) := by decide +kernel
theorem dX6_take_66 : decode cX6_take 66 = .ok (.iconst 1, 1) := by decide +kernel
theorem dX6_take_67 : decode cX6_take 67 = .ok (.iadd, 1) := by decide +kernel
theorem dX6_take_68 : decode cX6_take 68 = .ok (.putfield 22, 3) := by decide +kernel
theorem dX6_take_71 : decode cX6_take 71 = .ok (.aload_n 0, 1) := by decide +kernel
theorem dX6_take_72 : decode cX6_take 72 = .ok (.dup, 1) := by decide +kernel
theorem dX6_take_73 : decode cX6_take 73 = .ok (.getfield 46, 3) := by decide +kernel
theorem dX6_take_76 : decode cX6_take 76 = .ok (.iconst 1, 1) := by decide +kernel
theorem dX6_take_77 : decode cX6_take 77 = .ok (.iadd, 1) := by decide +kernel
theorem dX6_take_78 : decode cX6_take 78 = .ok (.putfield 46, 3) := by decide +kernel
theorem dX6_take_81 : decode cX6_take 81 = .ok (.aload_n 0, 1) := by decide +kernel
theorem dX6_take_82 : decode cX6_take 82 = .ok (.dup, 1) := by decide +kernel
theorem dX6_take_83 : decode cX6_take 83 = .ok (.getfield 49, 3) := by decide +kernel
theorem dX6_take_86 : decode cX6_take 86 = .ok (.iload_n 1, 1) := by decide +kernel
theorem dX6_take_87 : decode cX6_take 87 = .ok (.iadd, 1) := by decide +kernel
theorem dX6_take_88 : decode cX6_take 88 = .ok (.putfield 49, 3) := by decide +kernel
theorem dX6_take_91 : decode cX6_take 91 = .ok (.aload_n 0, 1) := by decide +kernel
theorem dX6_take_92 : decode cX6_take 92 = .ok (.getfield 46, 3) := by decide +kernel
theorem dX6_take_95 : decode cX6_take 95 = .ok (.aload_n 0, 1) := by decide +kernel
theorem dX6_take_96 : decode cX6_take 96 = .ok (.getfield 18, 3) := by decide +kernel
theorem dX6_take_99 : decode cX6_take 99 = .ok (.if_icmp .lt 21, 3) := by decide +kernel
theorem dX6_take_102 : decode cX6_take 102 = .ok (.aload_n 0, 1) := by decide +kernel
theorem dX6_take_103 : decode cX6_take 103 = .ok (.aload_n 0, 1) := by decide +kernel
theorem dX6_take_104 : decode cX6_take 104 = .ok (.getfield 49, 3) := by decide +kernel
theorem dX6_take_107 : decode cX6_take 107 = .ok (.invokevirtual 52, 3) := by decide +kernel
theorem dX6_take_110 : decode cX6_take 110 = .ok (.aload_n 0, 1) := by decide +kernel
theorem dX6_take_111 : decode cX6_take 111 = .ok (.iconst 0, 1) := by decide +kernel
theorem dX6_take_112 : decode cX6_take 112 = .ok (.putfield 46, 3) := by decide +kernel
theorem dX6_take_115 : decode cX6_take 115 = .ok (.aload_n 0, 1) := by decide +kernel
theorem dX6_take_116 : decode cX6_take 116 = .ok (.iconst 0, 1) := by decide +kernel
theorem dX6_take_117 : decode cX6_take 117 = .ok (.putfield 49, 3) := by decide +kernel
theorem dX6_take_120 : decode cX6_take 120 = .ok (.return_, 1) := by decide +kernel
theorem dX6_keep_0 : decode cX6_keep 0 = .ok (.aload_n 0, 1) := by decide +kernel
theorem dX6_keep_1 : decode cX6_keep 1 = .ok (.getfield 56, 3) := by decide +kernel
theorem dX6_keep_4 : decode cX6_keep 4 = .ok (.ldc 59, 2) := by decide +kernel
theorem dX6_keep_6 : decode cX6_keep 6 = .ok (.if_icmp .lt 4, 3) := by decide +kernel
theorem dX6_keep_9 : decode cX6_keep 9 = .ok (.return_, 1) := by decide +kernel
theorem dX6_keep_10 : decode cX6_keep 10 = .ok (.aload_n 0, 1) := by decide +kernel
theorem dX6_keep_11 : decode cX6_keep 11 = .ok (.getfield 12, 3) := by decide +kernel
theorem dX6_keep_14 : decode cX6_keep 14 = .ok (.invokevirtual 60, 3) := by decide +kernel
theorem dX6_keep_17 : decode cX6_keep 17 = .ok (.ifCond .ne 21, 3) := by decide +kernel
theorem dX6_keep_20 : decode cX6_keep 20 = .ok (.aload_n 0, 1) := by decide +kernel
theorem dX6_keep_21 : decode cX6_keep 21 = .ok (.getfield 56, 3) := by decide +kernel
theorem dX6_keep_24 : decode cX6_keep 24 = .ok (.aload_n 0, 1) := by decide +kernel
theorem dX6_keep_25 : decode cX6_keep 25 = .ok (.getfield 12, 3) := by decide +kernel
theorem dX6_keep_28 : decode cX6_keep 28 = .ok (.invokevirtual 64, 3) := by decide +kernel
theorem dX6_keep_31 : decode cX6_keep 31 = .ok (.sipush 512, 3) := by decide +kernel
theorem dX6_keep_34 : decode cX6_keep 34 = .ok (.imul, 1) := by decide +kernel
theorem dX6_keep_35 : decode cX6_keep 35 = .ok (.if_icmp .lt 18, 3) := by decide +kernel
theorem dX6_keep_38 : decode cX6_keep 38 = .ok (.aload_n 0, 1) := by decide +kernel
theorem dX6_keep_39 : decode cX6_keep 39 = .ok (.getfield 12, 3) := by decide +kernel
theorem dX6_keep_42 : decode cX6_keep 42 = .ok (.new 68, 3) := by decide +kernel
theorem dX6_keep_45 : decode cX6_keep 45 = .ok (.dup, 1) := by decide +kernel
theorem dX6_keep_46 : decode cX6_keep 46 = .ok (.invokespecial 70, 3) := by decide +kernel
theorem dX6_keep_49 : decode cX6_keep 49 = .ok (.invokevirtual 71, 3) := by decide +kernel
theorem dX6_keep_52 : decode cX6_keep 52 = .ok (.pop, 1) := by decide +kernel
theorem dX6_keep_53 : decode cX6_keep 53 = .ok (.aload_n 0, 1) := by decide +kernel
theorem dX6_keep_54 : decode cX6_keep 54 = .ok (.getfield 12, 3) := by decide +kernel
theorem dX6_keep_57 : decode cX6_keep 57 = .ok (.aload_n 0, 1) := by decide +kernel
theorem dX6_keep_58 : decode cX6_keep 58 = .ok (.getfield 12, 3) := by decide +kernel
theorem dX6_keep_61 : decode cX6_keep 61 = .ok (.invokevirtual 64, 3) := by decide +kernel
theorem dX6_keep_64 : decode cX6_keep 64 = .ok (.iconst 1, 1) := by decide +kernel
theorem dX6_keep_65 : decode cX6_keep 65 = .ok (.isub, 1) := by decide +kernel
theorem dX6_keep_66 : decode cX6_keep 66 = .ok (.invokevirtual 75, 3) := by decide +kernel
theorem dX6_keep_69 : decode cX6_keep 69 = .ok (.checkcast 68, 3) := by decide +kernel
theorem dX6_keep_72 : decode cX6_keep 72 = .ok (.getfield 79, 3) := by decide +kernel
theorem dX6_keep_75 : decode cX6_keep 75 = .ok (.aload_n 0, 1) := by decide +kernel
theorem dX6_keep_76 : decode cX6_keep 76 = .ok (.getfield 56, 3) := by decide +kernel
theorem dX6_keep_79 : decode cX6_keep 79 = .ok (.sipush 512, 3) := by decide +kernel
theorem dX6_keep_82 : decode cX6_keep 82 = .ok (.irem, 1) := by decide +kernel
theorem dX6_keep_83 : decode cX6_keep 83 = .ok (.iload_n 1, 1) := by decide +kernel
theorem dX6_keep_84 : decode cX6_keep 84 = .ok (.invokestatic 83, 3) := by decide +kernel
theorem dX6_keep_87 : decode cX6_keep 87 = .ok (.aload_n 0, 1) := by decide +kernel
theorem dX6_keep_88 : decode cX6_keep 88 = .ok (.dup, 1) := by decide +kernel
theorem dX6_keep_89 : decode cX6_keep 89 = .ok (.getfield 56, 3) := by decide +kernel
theorem dX6_keep_92 : decode cX6_keep 92 = .ok (.iconst 1, 1) := by decide +kernel
theorem dX6_keep_93 : decode cX6_keep 93 = .ok (.iadd, 1) := by decide +kernel
theorem dX6_keep_94 : decode cX6_keep 94 = .ok (.putfield 56, 3) := by decide +kernel
theorem dX6_keep_97 : decode cX6_keep 97 = .ok (.return_, 1) := by decide +kernel
theorem dX6_sumAt_0 : decode cX6_sumAt 0 = .ok (.iload_n 1, 1) := by decide +kernel
theorem dX6_sumAt_1 : decode cX6_sumAt 1 = .ok (.sipush 512, 3) := by decide +kernel
theorem dX6_sumAt_4 : decode cX6_sumAt 4 = .ok (.idiv, 1) := by decide +kernel
theorem dX6_sumAt_5 : decode cX6_sumAt 5 = .ok (.istore_n 2, 1) := by decide +kernel
theorem dX6_sumAt_6 : decode cX6_sumAt 6 = .ok (.iload_n 2, 1) := by decide +kernel
theorem dX6_sumAt_7 : decode cX6_sumAt 7 = .ok (.ifCond .lt 39, 3) := by decide +kernel
theorem dX6_sumAt_10 : decode cX6_sumAt 10 = .ok (.iload_n 2, 1) := by decide +kernel
theorem dX6_sumAt_11 : decode cX6_sumAt 11 = .ok (.aload_n 0, 1) := by decide +kernel
theorem dX6_sumAt_12 : decode cX6_sumAt 12 = .ok (.getfield 12, 3) := by decide +kernel
theorem dX6_sumAt_15 : decode cX6_sumAt 15 = .ok (.invokevirtual 64, 3) := by decide +kernel
theorem dX6_sumAt_18 : decode cX6_sumAt 18 = .ok (.if_icmp .ge 28, 3) := by decide +kernel
theorem dX6_sumAt_21 : decode cX6_sumAt 21 = .ok (.aload_n 0, 1) := by decide +kernel
theorem dX6_sumAt_22 : decode cX6_sumAt 22 = .ok (.getfield 12, 3) := by decide +kernel
theorem dX6_sumAt_25 : decode cX6_sumAt 25 = .ok (.iload_n 2, 1) := by decide +kernel
theorem dX6_sumAt_26 : decode cX6_sumAt 26 = .ok (.invokevirtual 75, 3) := by decide +kernel
theorem dX6_sumAt_29 : decode cX6_sumAt 29 = .ok (.checkcast 68, 3) := by decide +kernel
theorem dX6_sumAt_32 : decode cX6_sumAt 32 = .ok (.getfield 79, 3) := by decide +kernel
theorem dX6_sumAt_35 : decode cX6_sumAt 35 = .ok (.iload_n 1, 1) := by decide +kernel
theorem dX6_sumAt_36 : decode cX6_sumAt 36 = .ok (.sipush 512, 3) := by decide +kernel
theorem dX6_sumAt_39 : decode cX6_sumAt 39 = .ok (.irem, 1) := by decide +kernel
theorem dX6_sumAt_40 : decode cX6_sumAt 40 = .ok (.invokestatic 87, 3) := by decide +kernel
theorem dX6_sumAt_43 : decode cX6_sumAt 43 = .ok (.goto 4, 3) := by decide +kernel
theorem dX6_sumAt_46 : decode cX6_sumAt 46 = .ok (.iconst 0, 1) := by decide +kernel
theorem dX6_sumAt_47 : decode cX6_sumAt 47 = .ok (.ireturn, 1) := by decide +kernel
theorem dX6_variance_0 : decode cX6_variance 0 = .ok (.aload_n 0, 1) := by decide +kernel
theorem dX6_variance_1 : decode cX6_variance 1 = .ok (.getfield 56, 3) := by decide +kernel
theorem dX6_variance_4 : decode cX6_variance 4 = .ok (.i2l, 1) := by decide +kernel
theorem dX6_variance_5 : decode cX6_variance 5 = .ok (.lstore_n 1, 1) := by decide +kernel
theorem dX6_variance_6 : decode cX6_variance 6 = .ok (.lload_n 1, 1) := by decide +kernel
theorem dX6_variance_7 : decode cX6_variance 7 = .ok (.ldc2_w 91, 3) := by decide +kernel
theorem dX6_variance_10 : decode cX6_variance 10 = .ok (.lcmp, 1) := by decide +kernel
theorem dX6_variance_11 : decode cX6_variance 11 = .ok (.ifCond .ge 5, 3) := by decide +kernel
theorem dX6_variance_14 : decode cX6_variance 14 = .ok (.dconst 0, 1) := by decide +kernel
theorem dX6_variance_15 : decode cX6_variance 15 = .ok (.dreturn, 1) := by decide +kernel
theorem dX6_variance_16 : decode cX6_variance 16 = .ok (.lconst 0, 1) := by decide +kernel
theorem dX6_variance_17 : decode cX6_variance 17 = .ok (.lstore_n 3, 1) := by decide +kernel
theorem dX6_variance_18 : decode cX6_variance 18 = .ok (.lconst 0, 1) := by decide +kernel
theorem dX6_variance_19 : decode cX6_variance 19 = .ok (.lstore 5, 2) := by decide +kernel
theorem dX6_variance_21 : decode cX6_variance 21 = .ok (.lconst 0, 1) := by decide +kernel
theorem dX6_variance_22 : decode cX6_variance 22 = .ok (.lstore 7, 2) := by decide +kernel
theorem dX6_variance_24 : decode cX6_variance 24 = .ok (.iconst 0, 1) := by decide +kernel
theorem dX6_variance_25 : decode cX6_variance 25 = .ok (.istore 9, 2) := by decide +kernel
theorem dX6_variance_27 : decode cX6_variance 27 = .ok (.iload 9, 2) := by decide +kernel
theorem dX6_variance_29 : decode cX6_variance 29 = .ok (.aload_n 0, 1) := by decide +kernel
theorem dX6_variance_30 : decode cX6_variance 30 = .ok (.getfield 56, 3) := by decide +kernel
theorem dX6_variance_33 : decode cX6_variance 33 = .ok (.if_icmp .ge 52, 3) := by decide +kernel
theorem dX6_variance_36 : decode cX6_variance 36 = .ok (.aload_n 0, 1) := by decide +kernel
theorem dX6_variance_37 : decode cX6_variance 37 = .ok (.iload 9, 2) := by decide +kernel
theorem dX6_variance_39 : decode cX6_variance 39 = .ok (.invokevirtual 93, 3) := by decide +kernel
theorem dX6_variance_42 : decode cX6_variance 42 = .ok (.i2l, 1) := by decide +kernel
theorem dX6_variance_43 : decode cX6_variance 43 = .ok (.lstore 10, 2) := by decide +kernel
theorem dX6_variance_45 : decode cX6_variance 45 = .ok (.lload_n 3, 1) := by decide +kernel
theorem dX6_variance_46 : decode cX6_variance 46 = .ok (.lload 10, 2) := by decide +kernel
theorem dX6_variance_48 : decode cX6_variance 48 = .ok (.ladd, 1) := by decide +kernel
theorem dX6_variance_49 : decode cX6_variance 49 = .ok (.lstore_n 3, 1) := by decide +kernel
theorem dX6_variance_50 : decode cX6_variance 50 = .ok (.lload 7, 2) := by decide +kernel
theorem dX6_variance_52 : decode cX6_variance 52 = .ok (.lload 10, 2) := by decide +kernel
theorem dX6_variance_54 : decode cX6_variance 54 = .ok (.lload 10, 2) := by decide +kernel
theorem dX6_variance_56 : decode cX6_variance 56 = .ok (.lmul, 1) := by decide +kernel
theorem dX6_variance_57 : decode cX6_variance 57 = .ok (.ladd, 1) := by decide +kernel
theorem dX6_variance_58 : decode cX6_variance 58 = .ok (.lstore 7, 2) := by decide +kernel
theorem dX6_variance_60 : decode cX6_variance 60 = .ok (.lload 5, 2) := by decide +kernel
theorem dX6_variance_62 : decode cX6_variance 62 = .ok (.lload 7, 2) := by decide +kernel
theorem dX6_variance_64 : decode cX6_variance 64 = .ok (.bipush 40, 2) := by decide +kernel
theorem dX6_variance_66 : decode cX6_variance 66 = .ok (.lshr, 1) := by decide +kernel
theorem dX6_variance_67 : decode cX6_variance 67 = .ok (.ladd, 1) := by decide +kernel
theorem dX6_variance_68 : decode cX6_variance 68 = .ok (.lstore 5, 2) := by decide +kernel
theorem dX6_variance_70 : decode cX6_variance 70 = .ok (.lload 7, 2) := by decide +kernel
theorem dX6_variance_72 : decode cX6_variance 72 = .ok (.bipush 40, 2) := by decide +kernel
theorem dX6_variance_74 : decode cX6_variance 74 = .ok (.invokestatic 97, 3) := by decide +kernel
theorem dX6_variance_77 : decode cX6_variance 77 = .ok (.lstore 7, 2) := by decide +kernel
theorem dX6_variance_79 : decode cX6_variance 79 = .ok (.iinc 9 1, 3) := by decide +kernel
theorem dX6_variance_82 : decode cX6_variance 82 = .ok (.goto (-55), 3) := by decide +kernel
theorem dX6_variance_85 : decode cX6_variance 85 = .ok (.lload_n 1, 1) := by decide +kernel
theorem dX6_variance_86 : decode cX6_variance 86 = .ok (.lload_n 1, 1) := by decide +kernel
theorem dX6_variance_87 : decode cX6_variance 87 = .ok (.lconst 1, 1) := by decide +kernel
theorem dX6_variance_88 : decode cX6_variance 88 = .ok (.lsub, 1) := by decide +kernel
theorem dX6_variance_89 : decode cX6_variance 89 = .ok (.lmul, 1) := by decide +kernel
theorem dX6_variance_90 : decode cX6_variance 90 = .ok (.aload_n 0, 1) := by decide +kernel
theorem dX6_variance_91 : decode cX6_variance 91 = .ok (.getfield 18, 3) := by decide +kernel
theorem dX6_variance_94 : decode cX6_variance 94 = .ok (.i2l, 1) := by decide +kernel
theorem dX6_variance_95 : decode cX6_variance 95 = .ok (.lmul, 1) := by decide +kernel
theorem dX6_variance_96 : decode cX6_variance 96 = .ok (.aload_n 0, 1) := by decide +kernel
theorem dX6_variance_97 : decode cX6_variance 97 = .ok (.getfield 18, 3) := by decide +kernel
theorem dX6_variance_100 : decode cX6_variance 100 = .ok (.i2l, 1) := by decide +kernel
theorem dX6_variance_101 : decode cX6_variance 101 = .ok (.lmul, 1) := by decide +kernel
theorem dX6_variance_102 : decode cX6_variance 102 = .ok (.lstore 9, 2) := by decide +kernel
theorem dX6_variance_104 : decode cX6_variance 104 = .ok (.lload 9, 2) := by decide +kernel
theorem dX6_variance_106 : decode cX6_variance 106 = .ok (.lconst 0, 1) := by decide +kernel
theorem dX6_variance_107 : decode cX6_variance 107 = .ok (.lcmp, 1) := by decide +kernel
theorem dX6_variance_108 : decode cX6_variance 108 = .ok (.ifCond .le 19, 3) := by decide +kernel
theorem dX6_variance_111 : decode cX6_variance 111 = .ok (.lload_n 1, 1) := by decide +kernel
theorem dX6_variance_112 : decode cX6_variance 112 = .ok (.lload_n 3, 1) := by decide +kernel
theorem dX6_variance_113 : decode cX6_variance 113 = .ok (.lload 5, 2) := by decide +kernel
theorem dX6_variance_115 : decode cX6_variance 115 = .ok (.lload 7, 2) := by decide +kernel
theorem dX6_variance_117 : decode cX6_variance 117 = .ok (.invokestatic 101, 3) := by decide +kernel
theorem dX6_variance_120 : decode cX6_variance 120 = .ok (.lload 9, 2) := by decide +kernel
theorem dX6_variance_122 : decode cX6_variance 122 = .ok (.l2d, 1) := by decide +kernel
theorem dX6_variance_123 : decode cX6_variance 123 = .ok (.ddiv, 1) := by decide +kernel
theorem dX6_variance_124 : decode cX6_variance 124 = .ok (.goto 4, 3) := by decide +kernel
theorem dX6_variance_127 : decode cX6_variance 127 = .ok (.dconst 0, 1) := by decide +kernel
theorem dX6_variance_128 : decode cX6_variance 128 = .ok (.dreturn, 1) := by decide +kernel
theorem dX6_overBar_0 : decode cX6_overBar 0 = .ok (.lload_n 2, 1) := by decide +kernel
theorem dX6_overBar_1 : decode cX6_overBar 1 = .ok (.bipush 20, 2) := by decide +kernel
theorem dX6_overBar_3 : decode cX6_overBar 3 = .ok (.lshr, 1) := by decide +kernel
theorem dX6_overBar_4 : decode cX6_overBar 4 = .ok (.lstore 8, 2) := by decide +kernel
theorem dX6_overBar_6 : decode cX6_overBar 6 = .ok (.lload_n 2, 1) := by decide +kernel
theorem dX6_overBar_7 : decode cX6_overBar 7 = .ok (.bipush 20, 2) := by decide +kernel
theorem dX6_overBar_9 : decode cX6_overBar 9 = .ok (.invokestatic 97, 3) := by decide +kernel
theorem dX6_overBar_12 : decode cX6_overBar 12 = .ok (.lstore 10, 2) := by decide +kernel
theorem dX6_overBar_14 : decode cX6_overBar 14 = .ok (.ldc2_w 91, 3) := by decide +kernel
theorem dX6_overBar_17 : decode cX6_overBar 17 = .ok (.lload 8, 2) := by decide +kernel
theorem dX6_overBar_19 : decode cX6_overBar 19 = .ok (.lmul, 1) := by decide +kernel
theorem dX6_overBar_20 : decode cX6_overBar 20 = .ok (.lload 10, 2) := by decide +kernel
theorem dX6_overBar_22 : decode cX6_overBar 22 = .ok (.lmul, 1) := by decide +kernel
theorem dX6_overBar_23 : decode cX6_overBar 23 = .ok (.lstore 12, 2) := by decide +kernel
theorem dX6_overBar_25 : decode cX6_overBar 25 = .ok (.lload_n 0, 1) := by decide +kernel
theorem dX6_overBar_26 : decode cX6_overBar 26 = .ok (.lload 4, 2) := by decide +kernel
theorem dX6_overBar_28 : decode cX6_overBar 28 = .ok (.lmul, 1) := by decide +kernel
theorem dX6_overBar_29 : decode cX6_overBar 29 = .ok (.lload 8, 2) := by decide +kernel
theorem dX6_overBar_31 : decode cX6_overBar 31 = .ok (.lload 8, 2) := by decide +kernel
theorem dX6_overBar_33 : decode cX6_overBar 33 = .ok (.lmul, 1) := by decide +kernel
theorem dX6_overBar_34 : decode cX6_overBar 34 = .ok (.lsub, 1) := by decide +kernel
theorem dX6_overBar_35 : decode cX6_overBar 35 = .ok (.lload 12, 2) := by decide +kernel
theorem dX6_overBar_37 : decode cX6_overBar 37 = .ok (.bipush 20, 2) := by decide +kernel
theorem dX6_overBar_39 : decode cX6_overBar 39 = .ok (.lshr, 1) := by decide +kernel
theorem dX6_overBar_40 : decode cX6_overBar 40 = .ok (.lsub, 1) := by decide +kernel
theorem dX6_overBar_41 : decode cX6_overBar 41 = .ok (.lstore 14, 2) := by decide +kernel
theorem dX6_overBar_43 : decode cX6_overBar 43 = .ok (.lload_n 0, 1) := by decide +kernel
theorem dX6_overBar_44 : decode cX6_overBar 44 = .ok (.lload 6, 2) := by decide +kernel
theorem dX6_overBar_46 : decode cX6_overBar 46 = .ok (.lmul, 1) := by decide +kernel
theorem dX6_overBar_47 : decode cX6_overBar 47 = .ok (.lload 10, 2) := by decide +kernel
theorem dX6_overBar_49 : decode cX6_overBar 49 = .ok (.lload 10, 2) := by decide +kernel
theorem dX6_overBar_51 : decode cX6_overBar 51 = .ok (.lmul, 1) := by decide +kernel
theorem dX6_overBar_52 : decode cX6_overBar 52 = .ok (.lsub, 1) := by decide +kernel
theorem dX6_overBar_53 : decode cX6_overBar 53 = .ok (.lload 12, 2) := by decide +kernel
theorem dX6_overBar_55 : decode cX6_overBar 55 = .ok (.bipush 20, 2) := by decide +kernel
theorem dX6_overBar_57 : decode cX6_overBar 57 = .ok (.invokestatic 97, 3) := by decide +kernel
theorem dX6_overBar_60 : decode cX6_overBar 60 = .ok (.bipush 20, 2) := by decide +kernel
theorem dX6_overBar_62 : decode cX6_overBar 62 = .ok (.lshl, 1) := by decide +kernel
theorem dX6_overBar_63 : decode cX6_overBar 63 = .ok (.lsub, 1) := by decide +kernel
theorem dX6_overBar_64 : decode cX6_overBar 64 = .ok (.lstore 16, 2) := by decide +kernel
theorem dX6_overBar_66 : decode cX6_overBar 66 = .ok (.lload 14, 2) := by decide +kernel
theorem dX6_overBar_68 : decode cX6_overBar 68 = .ok (.lload 16, 2) := by decide +kernel
theorem dX6_overBar_70 : decode cX6_overBar 70 = .ok (.bipush 40, 2) := by decide +kernel
theorem dX6_overBar_72 : decode cX6_overBar 72 = .ok (.lshr, 1) := by decide +kernel
theorem dX6_overBar_73 : decode cX6_overBar 73 = .ok (.ladd, 1) := by decide +kernel
theorem dX6_overBar_74 : decode cX6_overBar 74 = .ok (.lstore 14, 2) := by decide +kernel
theorem dX6_overBar_76 : decode cX6_overBar 76 = .ok (.lload 16, 2) := by decide +kernel
theorem dX6_overBar_78 : decode cX6_overBar 78 = .ok (.bipush 40, 2) := by decide +kernel
theorem dX6_overBar_80 : decode cX6_overBar 80 = .ok (.invokestatic 97, 3) := by decide +kernel
theorem dX6_overBar_83 : decode cX6_overBar 83 = .ok (.lstore 16, 2) := by decide +kernel
theorem dX6_overBar_85 : decode cX6_overBar 85 = .ok (.lload 14, 2) := by decide +kernel
theorem dX6_overBar_87 : decode cX6_overBar 87 = .ok (.l2d, 1) := by decide +kernel
theorem dX6_overBar_88 : decode cX6_overBar 88 = .ok (.ldc2_w 105, 3) := by decide +kernel
theorem dX6_overBar_91 : decode cX6_overBar 91 = .ok (.dmul, 1) := by decide +kernel
theorem dX6_overBar_92 : decode cX6_overBar 92 = .ok (.lload 16, 2) := by decide +kernel
theorem dX6_overBar_94 : decode cX6_overBar 94 = .ok (.l2d, 1) := by decide +kernel
theorem dX6_overBar_95 : decode cX6_overBar 95 = .ok (.dadd, 1) := by decide +kernel
theorem dX6_overBar_96 : decode cX6_overBar 96 = .ok (.dreturn, 1) := by decide +kernel
theorem dX6_lowPart_0 : decode cX6_lowPart 0 = .ok (.lload_n 0, 1) := by decide +kernel
theorem dX6_lowPart_1 : decode cX6_lowPart 1 = .ok (.lconst 1, 1) := by decide +kernel
theorem dX6_lowPart_2 : decode cX6_lowPart 2 = .ok (.iload_n 2, 1) := by decide +kernel
theorem dX6_lowPart_3 : decode cX6_lowPart 3 = .ok (.lshl, 1) := by decide +kernel
theorem dX6_lowPart_4 : decode cX6_lowPart 4 = .ok (.lconst 1, 1) := by decide +kernel
theorem dX6_lowPart_5 : decode cX6_lowPart 5 = .ok (.lsub, 1) := by decide +kernel
theorem dX6_lowPart_6 : decode cX6_lowPart 6 = .ok (.land, 1) := by decide +kernel
theorem dX6_lowPart_7 : decode cX6_lowPart 7 = .ok (.lreturn, 1) := by decide +kernel
theorem dX7_init_0 : decode cX7_init 0 = .ok (.aload_n 0, 1) := by decide +kernel
theorem dX7_init_1 : decode cX7_init 1 = .ok (.invokespecial 3, 3) := by decide +kernel
theorem dX7_init_4 : decode cX7_init 4 = .ok (.aload_n 0, 1) := by decide +kernel
theorem dX7_init_5 : decode cX7_init 5 = .ok (.new 9, 3) := by decide +kernel
theorem dX7_init_8 : decode cX7_init 8 = .ok (.dup, 1) := by decide +kernel
theorem dX7_init_9 : decode cX7_init 9 = .ok (.invokespecial 11, 3) := by decide +kernel
theorem dX7_init_12 : decode cX7_init 12 = .ok (.putfield 12, 3) := by decide +kernel
theorem dX7_init_15 : decode cX7_init 15 = .ok (.aload_n 0, 1) := by decide +kernel
theorem dX7_init_16 : decode cX7_init 16 = .ok (.new 9, 3) := by decide +kernel
theorem dX7_init_19 : decode cX7_init 19 = .ok (.dup, 1) := by decide +kernel
theorem dX7_init_20 : decode cX7_init 20 = .ok (.invokespecial 11, 3) := by decide +kernel
theorem dX7_init_23 : decode cX7_init 23 = .ok (.putfield 18, 3) := by decide +kernel
theorem dX7_init_26 : decode cX7_init 26 = .ok (.aload_n 0, 1) := by decide +kernel
theorem dX7_init_27 : decode cX7_init 27 = .ok (.bipush 24, 2) := by decide +kernel
theorem dX7_init_29 : decode cX7_init 29 = .ok (.anewarray 21, 3) := by decide +kernel
theorem dX7_init_32 : decode cX7_init 32 = .ok (.putfield 23, 3) := by decide +kernel
theorem dX7_init_35 : decode cX7_init 35 = .ok (.aload_n 0, 1) := by decide +kernel
theorem dX7_init_36 : decode cX7_init 36 = .ok (.aload_n 1, 1) := by decide +kernel
theorem dX7_init_37 : decode cX7_init 37 = .ok (.putfield 27, 3) := by decide +kernel
theorem dX7_init_40 : decode cX7_init 40 = .ok (.aload_n 0, 1) := by decide +kernel
theorem dX7_init_41 : decode cX7_init 41 = .ok (.aload_n 2, 1) := by decide +kernel
theorem dX7_init_42 : decode cX7_init 42 = .ok (.putfield 30, 3) := by decide +kernel
theorem dX7_init_45 : decode cX7_init 45 = .ok (.iconst 0, 1) := by decide +kernel
theorem dX7_init_46 : decode cX7_init 46 = .ok (.istore_n 3, 1) := by decide +kernel
theorem dX7_init_47 : decode cX7_init 47 = .ok (.iload_n 3, 1) := by decide +kernel
theorem dX7_init_48 : decode cX7_init 48 = .ok (.aload_n 0, 1) := by decide +kernel
theorem dX7_init_49 : decode cX7_init 49 = .ok (.getfield 23, 3) := by decide +kernel
theorem dX7_init_52 : decode cX7_init 52 = .ok (.arraylength, 1) := by decide +kernel
theorem dX7_init_53 : decode cX7_init 53 = .ok (.if_icmp .ge 23, 3) := by decide +kernel
theorem dX7_init_56 : decode cX7_init 56 = .ok (.aload_n 0, 1) := by decide +kernel
theorem dX7_init_57 : decode cX7_init 57 = .ok (.getfield 23, 3) := by decide +kernel
theorem dX7_init_60 : decode cX7_init 60 = .ok (.iload_n 3, 1) := by decide +kernel
theorem dX7_init_61 : decode cX7_init 61 = .ok (.new 21, 3) := by decide +kernel
theorem dX7_init_64 : decode cX7_init 64 = .ok (.dup, 1) := by decide +kernel
theorem dX7_init_65 : decode cX7_init 65 = .ok (.iload_n 3, 1) := by decide +kernel
theorem dX7_init_66 : decode cX7_init 66 = .ok (.invokespecial 33, 3) := by decide +kernel
theorem dX7_init_69 : decode cX7_init 69 = .ok (.aastore, 1) := by decide +kernel
theorem dX7_init_70 : decode cX7_init 70 = .ok (.iinc 3 1, 3) := by decide +kernel
theorem dX7_init_73 : decode cX7_init 73 = .ok (.goto (-26), 3) := by decide +kernel
theorem dX7_init_76 : decode cX7_init 76 = .ok (.return_, 1) := by decide +kernel
theorem dX7_copyFrom_0 : decode cX7_copyFrom 0 = .ok (.aload_n 0, 1) := by decide +kernel
theorem dX7_copyFrom_1 : decode cX7_copyFrom 1 = .ok (.aload_n 1, 1) := by decide +kernel
theorem dX7_copyFrom_2 : decode cX7_copyFrom 2 = .ok (.getfield 36, 3) := by decide +kernel
theorem dX7_copyFrom_5 : decode cX7_copyFrom 5 = .ok (.putfield 36, 3) := by decide +kernel
theorem dX7_copyFrom_8 : decode cX7_copyFrom 8 = .ok (.aload_n 0, 1) := by decide +kernel
theorem dX7_copyFrom_9 : decode cX7_copyFrom 9 = .ok (.aload_n 1, 1) := by decide +kernel
theorem dX7_copyFrom_10 : decode cX7_copyFrom 10 = .ok (.getfield 40, 3) := by decide +kernel
theorem dX7_copyFrom_13 : decode cX7_copyFrom 13 = .ok (.putfield 40, 3) := by decide +kernel
theorem dX7_copyFrom_16 : decode cX7_copyFrom 16 = .ok (.aload_n 0, 1) := by decide +kernel
theorem dX7_copyFrom_17 : decode cX7_copyFrom 17 = .ok (.aload_n 1, 1) := by decide +kernel
theorem dX7_copyFrom_18 : decode cX7_copyFrom 18 = .ok (.getfield 43, 3) := by decide +kernel
theorem dX7_copyFrom_21 : decode cX7_copyFrom 21 = .ok (.putfield 43, 3) := by decide +kernel
theorem dX7_copyFrom_24 : decode cX7_copyFrom 24 = .ok (.aload_n 0, 1) := by decide +kernel
theorem dX7_copyFrom_25 : decode cX7_copyFrom 25 = .ok (.aload_n 1, 1) := by decide +kernel
theorem dX7_copyFrom_26 : decode cX7_copyFrom 26 = .ok (.getfield 46, 3) := by decide +kernel
theorem dX7_copyFrom_29 : decode cX7_copyFrom 29 = .ok (.putfield 46, 3) := by decide +kernel
theorem dX7_copyFrom_32 : decode cX7_copyFrom 32 = .ok (.aload_n 0, 1) := by decide +kernel
theorem dX7_copyFrom_33 : decode cX7_copyFrom 33 = .ok (.aload_n 1, 1) := by decide +kernel
theorem dX7_copyFrom_34 : decode cX7_copyFrom 34 = .ok (.getfield 49, 3) := by decide +kernel
theorem dX7_copyFrom_37 : decode cX7_copyFrom 37 = .ok (.putfield 49, 3) := by decide +kernel
theorem dX7_copyFrom_40 : decode cX7_copyFrom 40 = .ok (.iconst 0, 1) := by decide +kernel
theorem dX7_copyFrom_41 : decode cX7_copyFrom 41 = .ok (.istore_n 2, 1) := by decide +kernel
theorem dX7_copyFrom_42 : decode cX7_copyFrom 42 = .ok (.iload_n 2, 1) := by decide +kernel
theorem dX7_copyFrom_43 : decode cX7_copyFrom 43 = .ok (.aload_n 0, 1) := by decide +kernel
theorem dX7_copyFrom_44 : decode cX7_copyFrom 44 = .ok (.getfield 23, 3) := by decide +kernel
theorem dX7_copyFrom_47 : decode cX7_copyFrom 47 = .ok (.arraylength, 1) := by decide +kernel
theorem dX7_copyFrom_48 : decode cX7_copyFrom 48 = .ok (.if_icmp .ge 33, 3) := by decide +kernel
theorem dX7_copyFrom_51 : decode cX7_copyFrom 51 = .ok (.iload_n 2, 1) := by decide +kernel
theorem dX7_copyFrom_52 : decode cX7_copyFrom 52 = .ok (.aload_n 1, 1) := by decide +kernel
theorem dX7_copyFrom_53 : decode cX7_copyFrom 53 = .ok (.getfield 23, 3) := by decide +kernel
theorem dX7_copyFrom_56 : decode cX7_copyFrom 56 = .ok (.arraylength, 1) := by decide +kernel
theorem dX7_copyFrom_57 : decode cX7_copyFrom 57 = .ok (.if_icmp .ge 24, 3) := by decide +kernel
theorem dX7_copyFrom_60 : decode cX7_copyFrom 60 = .ok (.aload_n 0, 1) := by decide +kernel
theorem dX7_copyFrom_61 : decode cX7_copyFrom 61 = .ok (.getfield 23, 3) := by decide +kernel
theorem dX7_copyFrom_64 : decode cX7_copyFrom 64 = .ok (.iload_n 2, 1) := by decide +kernel
theorem dX7_copyFrom_65 : decode cX7_copyFrom 65 = .ok (.aaload, 1) := by decide +kernel
theorem dX7_copyFrom_66 : decode cX7_copyFrom 66 = .ok (.aload_n 1, 1) := by decide +kernel
theorem dX7_copyFrom_67 : decode cX7_copyFrom 67 = .ok (.getfield 23, 3) := by decide +kernel
theorem dX7_copyFrom_70 : decode cX7_copyFrom 70 = .ok (.iload_n 2, 1) := by decide +kernel
theorem dX7_copyFrom_71 : decode cX7_copyFrom 71 = .ok (.aaload, 1) := by decide +kernel
theorem dX7_copyFrom_72 : decode cX7_copyFrom 72 = .ok (.invokevirtual 52, 3) := by decide +kernel
theorem dX7_copyFrom_75 : decode cX7_copyFrom 75 = .ok (.iinc 2 1, 3) := by decide +kernel
theorem dX7_copyFrom_78 : decode cX7_copyFrom 78 = .ok (.goto (-36), 3) := by decide +kernel
theorem dX7_copyFrom_81 : decode cX7_copyFrom 81 = .ok (.iconst 0, 1) := by decide +kernel
theorem dX7_copyFrom_82 : decode cX7_copyFrom 82 = .ok (.istore_n 2, 1) := by decide +kernel
theorem dX7_copyFrom_83 : decode cX7_copyFrom 83 = .ok (.iload_n 2, 1) := by decide +kernel
theorem dX7_copyFrom_84 : decode cX7_copyFrom 84 = .ok (.aload_n 0, 1) := by decide +kernel
theorem dX7_copyFrom_85 : decode cX7_copyFrom 85 = .ok (.getfield 12, 3) := by decide +kernel
theorem dX7_copyFrom_88 : decode cX7_copyFrom 88 = .ok (.invokevirtual 56, 3) := by decide +kernel
theorem dX7_copyFrom_91 : decode cX7_copyFrom 91 = .ok (.if_icmp .ge 45, 3) := by decide +kernel
theorem dX7_copyFrom_94 : decode cX7_copyFrom 94 = .ok (.iload_n 2, 1) := by decide +kernel
theorem dX7_copyFrom_95 : decode cX7_copyFrom 95 = .ok (.aload_n 1, 1) := by decide +kernel
theorem dX7_copyFrom_96 : decode cX7_copyFrom 96 = .ok (.getfield 12, 3) := by decide +kernel
theorem dX7_copyFrom_99 : decode cX7_copyFrom 99 = .ok (.invokevirtual 56, 3) := by decide +kernel
theorem dX7_copyFrom_102 : decode cX7_copyFrom 102 = .ok (.if_icmp .ge 34, 3) := by decide +kernel
theorem dX7_copyFrom_105 : decode cX7_copyFrom 105 = .ok (.aload_n 0, 1) := by decide +kernel
theorem dX7_copyFrom_106 : decode cX7_copyFrom 106 = .ok (.getfield 12, 3) := by decide +kernel
theorem dX7_copyFrom_109 : decode cX7_copyFrom 109 = .ok (.iload_n 2, 1) := by decide +kernel
theorem dX7_copyFrom_110 : decode cX7_copyFrom 110 = .ok (.invokevirtual 60, 3) := by decide +kernel
theorem dX7_copyFrom_113 : decode cX7_copyFrom 113 = .ok (.checkcast 64, 3) := by decide +kernel
theorem dX7_copyFrom_116 : decode cX7_copyFrom 116 = .ok (.aload_n 1, 1) := by decide +kernel
theorem dX7_copyFrom_117 : decode cX7_copyFrom 117 = .ok (.getfield 12, 3) := by decide +kernel
theorem dX7_copyFrom_120 : decode cX7_copyFrom 120 = .ok (.iload_n 2, 1) := by decide +kernel
theorem dX7_copyFrom_121 : decode cX7_copyFrom 121 = .ok (.invokevirtual 60, 3) := by decide +kernel
theorem dX7_copyFrom_124 : decode cX7_copyFrom 124 = .ok (.checkcast 64, 3) := by decide +kernel
theorem dX7_copyFrom_127 : decode cX7_copyFrom 127 = .ok (.invokevirtual 66, 3) := by decide +kernel
theorem dX7_copyFrom_130 : decode cX7_copyFrom 130 = .ok (.iinc 2 1, 3) := by decide +kernel
theorem dX7_copyFrom_133 : decode cX7_copyFrom 133 = .ok (.goto (-50), 3) := by decide +kernel
theorem dX7_copyFrom_136 : decode cX7_copyFrom 136 = .ok (.iconst 0, 1) := by decide +kernel
theorem dX7_copyFrom_137 : decode cX7_copyFrom 137 = .ok (.istore_n 2, 1) := by decide +kernel
theorem dX7_copyFrom_138 : decode cX7_copyFrom 138 = .ok (.iload_n 2, 1) := by decide +kernel
theorem dX7_copyFrom_139 : decode cX7_copyFrom 139 = .ok (.aload_n 0, 1) := by decide +kernel
theorem dX7_copyFrom_140 : decode cX7_copyFrom 140 = .ok (.getfield 18, 3) := by decide +kernel
theorem dX7_copyFrom_143 : decode cX7_copyFrom 143 = .ok (.invokevirtual 56, 3) := by decide +kernel
theorem dX7_copyFrom_146 : decode cX7_copyFrom 146 = .ok (.if_icmp .ge 45, 3) := by decide +kernel
theorem dX7_copyFrom_149 : decode cX7_copyFrom 149 = .ok (.iload_n 2, 1) := by decide +kernel
theorem dX7_copyFrom_150 : decode cX7_copyFrom 150 = .ok (.aload_n 1, 1) := by decide +kernel
theorem dX7_copyFrom_151 : decode cX7_copyFrom 151 = .ok (.getfield 18, 3) := by decide +kernel
theorem dX7_copyFrom_154 : decode cX7_copyFrom 154 = .ok (.invokevirtual 56, 3) := by decide +kernel
theorem dX7_copyFrom_157 : decode cX7_copyFrom 157 = .ok (.if_icmp .ge 34, 3) := by decide +kernel
theorem dX7_copyFrom_160 : decode cX7_copyFrom 160 = .ok (.aload_n 0, 1) := by decide +kernel
theorem dX7_copyFrom_161 : decode cX7_copyFrom 161 = .ok (.getfield 18, 3) := by decide +kernel
theorem dX7_copyFrom_164 : decode cX7_copyFrom 164 = .ok (.iload_n 2, 1) := by decide +kernel
theorem dX7_copyFrom_165 : decode cX7_copyFrom 165 = .ok (.invokevirtual 60, 3) := by decide +kernel
theorem dX7_copyFrom_168 : decode cX7_copyFrom 168 = .ok (.checkcast 69, 3) := by decide +kernel
theorem dX7_copyFrom_171 : decode cX7_copyFrom 171 = .ok (.aload_n 1, 1) := by decide +kernel
theorem dX7_copyFrom_172 : decode cX7_copyFrom 172 = .ok (.getfield 18, 3) := by decide +kernel
theorem dX7_copyFrom_175 : decode cX7_copyFrom 175 = .ok (.iload_n 2, 1) := by decide +kernel
theorem dX7_copyFrom_176 : decode cX7_copyFrom 176 = .ok (.invokevirtual 60, 3) := by decide +kernel
theorem dX7_copyFrom_179 : decode cX7_copyFrom 179 = .ok (.checkcast 69, 3) := by decide +kernel
theorem dX7_copyFrom_182 : decode cX7_copyFrom 182 = .ok (.invokevirtual 71, 3) := by decide +kernel
theorem dX7_copyFrom_185 : decode cX7_copyFrom 185 = .ok (.iinc 2 1, 3) := by decide +kernel
theorem dX7_copyFrom_188 : decode cX7_copyFrom 188 = .ok (.goto (-50), 3) := by decide +kernel
theorem dX7_copyFrom_191 : decode cX7_copyFrom 191 = .ok (.return_, 1) := by decide +kernel
theorem dX7_resource_0 : decode cX7_resource 0 = .ok (.iload_n 1, 1) := by decide +kernel
theorem dX7_resource_1 : decode cX7_resource 1 = .ok (.ifCond .lt 28, 3) := by decide +kernel
theorem dX7_resource_4 : decode cX7_resource 4 = .ok (.iload_n 1, 1) := by decide +kernel
theorem dX7_resource_5 : decode cX7_resource 5 = .ok (.aload_n 0, 1) := by decide +kernel
theorem dX7_resource_6 : decode cX7_resource 6 = .ok (.getfield 12, 3) := by decide +kernel
theorem dX7_resource_9 : decode cX7_resource 9 = .ok (.invokevirtual 56, 3) := by decide +kernel
theorem dX7_resource_12 : decode cX7_resource 12 = .ok (.if_icmp .ge 17, 3) := by decide +kernel
theorem dX7_resource_15 : decode cX7_resource 15 = .ok (.aload_n 0, 1) := by decide +kernel
theorem dX7_resource_16 : decode cX7_resource 16 = .ok (.getfield 12, 3) := by decide +kernel
theorem dX7_resource_19 : decode cX7_resource 19 = .ok (.iload_n 1, 1) := by decide +kernel
theorem dX7_resource_20 : decode cX7_resource 20 = .ok (.invokevirtual 60, 3) := by decide +kernel
theorem dX7_resource_23 : decode cX7_resource 23 = .ok (.checkcast 64, 3) := by decide +kernel
theorem dX7_resource_26 : decode cX7_resource 26 = .ok (.goto 4, 3) := by decide +kernel
theorem dX7_resource_29 : decode cX7_resource 29 = .ok (.aconst_null, 1) := by decide +kernel
theorem dX7_resource_30 : decode cX7_resource 30 = .ok (.areturn, 1) := by decide +kernel
theorem dX7_store_0 : decode cX7_store 0 = .ok (.iload_n 1, 1) := by decide +kernel
theorem dX7_store_1 : decode cX7_store 1 = .ok (.ifCond .lt 28, 3) := by decide +kernel
theorem dX7_store_4 : decode cX7_store 4 = .ok (.iload_n 1, 1) := by decide +kernel
theorem dX7_store_5 : decode cX7_store 5 = .ok (.aload_n 0, 1) := by decide +kernel
theorem dX7_store_6 : decode cX7_store 6 = .ok (.getfield 18, 3) := by decide +kernel
theorem dX7_store_9 : decode cX7_store 9 = .ok (.invokevirtual 56, 3) := by decide +kernel
theorem dX7_store_12 : decode cX7_store 12 = .ok (.if_icmp .ge 17, 3) := by decide +kernel
theorem dX7_store_15 : decode cX7_store 15 = .ok (.aload_n 0, 1) := by decide +kernel
theorem dX7_store_16 : decode cX7_store 16 = .ok (.getfield 18, 3) := by decide +kernel
theorem dX7_store_19 : decode cX7_store 19 = .ok (.iload_n 1, 1) := by decide +kernel
theorem dX7_store_20 : decode cX7_store 20 = .ok (.invokevirtual 60, 3) := by decide +kernel
theorem dX7_store_23 : decode cX7_store 23 = .ok (.checkcast 69, 3) := by decide +kernel
theorem dX7_store_26 : decode cX7_store 26 = .ok (.goto 4, 3) := by decide +kernel
theorem dX7_store_29 : decode cX7_store 29 = .ok (.aconst_null, 1) := by decide +kernel
theorem dX7_store_30 : decode cX7_store 30 = .ok (.areturn, 1) := by decide +kernel
theorem dX7_tally_0 : decode cX7_tally 0 = .ok (.iload_n 1, 1) := by decide +kernel
theorem dX7_tally_1 : decode cX7_tally 1 = .ok (.ifCond .lt 28, 3) := by decide +kernel
theorem dX7_tally_4 : decode cX7_tally 4 = .ok (.iload_n 1, 1) := by decide +kernel
theorem dX7_tally_5 : decode cX7_tally 5 = .ok (.aload_n 0, 1) := by decide +kernel
theorem dX7_tally_6 : decode cX7_tally 6 = .ok (.getfield 30, 3) := by decide +kernel
theorem dX7_tally_9 : decode cX7_tally 9 = .ok (.invokevirtual 56, 3) := by decide +kernel
theorem dX7_tally_12 : decode cX7_tally 12 = .ok (.if_icmp .ge 17, 3) := by decide +kernel
theorem dX7_tally_15 : decode cX7_tally 15 = .ok (.aload_n 0, 1) := by decide +kernel
theorem dX7_tally_16 : decode cX7_tally 16 = .ok (.getfield 30, 3) := by decide +kernel
theorem dX7_tally_19 : decode cX7_tally 19 = .ok (.iload_n 1, 1) := by decide +kernel
theorem dX7_tally_20 : decode cX7_tally 20 = .ok (.invokevirtual 60, 3) := by decide +kernel
theorem dX7_tally_23 : decode cX7_tally 23 = .ok (.checkcast 74, 3) := by decide +kernel
theorem dX7_tally_26 : decode cX7_tally 26 = .ok (.goto 4, 3) := by decide +kernel
theorem dX7_tally_29 : decode cX7_tally 29 = .ok (.aconst_null, 1) := by decide +kernel
theorem dX7_tally_30 : decode cX7_tally 30 = .ok (.areturn, 1) := by decide +kernel
theorem dX7_script_0 : decode cX7_script 0 = .ok (.iload_n 1, 1) := by decide +kernel
theorem dX7_script_1 : decode cX7_script 1 = .ok (.ifCond .lt 28, 3) := by decide +kernel
theorem dX7_script_4 : decode cX7_script 4 = .ok (.iload_n 1, 1) := by decide +kernel
theorem dX7_script_5 : decode cX7_script 5 = .ok (.aload_n 0, 1) := by decide +kernel
theorem dX7_script_6 : decode cX7_script 6 = .ok (.getfield 27, 3) := by decide +kernel
theorem dX7_script_9 : decode cX7_script 9 = .ok (.invokevirtual 56, 3) := by decide +kernel
