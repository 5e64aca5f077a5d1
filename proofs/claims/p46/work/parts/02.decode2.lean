theorem dX7_inRowAt_53 : decode cX7_inRowAt 53 = .ok (.aconst_null, 1) := by decide +kernel
theorem dX7_inRowAt_54 : decode cX7_inRowAt 54 = .ok (.areturn, 1) := by decide +kernel
theorem dX7_countBefore_0 : decode cX7_countBefore 0 = .ok (.iconst 0, 1) := by decide +kernel
theorem dX7_countBefore_1 : decode cX7_countBefore 1 = .ok (.istore_n 2, 1) := by decide +kernel
theorem dX7_countBefore_2 : decode cX7_countBefore 2 = .ok (.aload_n 0, 1) := by decide +kernel
theorem dX7_countBefore_3 : decode cX7_countBefore 3 = .ok (.getfield 23, 3) := by decide +kernel
theorem dX7_countBefore_6 : decode cX7_countBefore 6 = .ok (.astore_n 3, 1) := by decide +kernel
theorem dX7_countBefore_7 : decode cX7_countBefore 7 = .ok (.aload_n 3, 1) := by decide +kernel
theorem dX7_countBefore_8 : decode cX7_countBefore 8 = .ok (.arraylength, 1) := by decide +kernel
theorem dX7_countBefore_9 : decode cX7_countBefore 9 = .ok (.istore 4, 2) := by decide +kernel
theorem dX7_countBefore_11 : decode cX7_countBefore 11 = .ok (.iconst 0, 1) := by decide +kernel
theorem dX7_countBefore_12 : decode cX7_countBefore 12 = .ok (.istore 5, 2) := by decide +kernel
theorem dX7_countBefore_14 : decode cX7_countBefore 14 = .ok (.iload 5, 2) := by decide +kernel
theorem dX7_countBefore_16 : decode cX7_countBefore 16 = .ok (.iload 4, 2) := by decide +kernel
theorem dX7_countBefore_18 : decode cX7_countBefore 18 = .ok (.if_icmp .ge 39, 3) := by decide +kernel
theorem dX7_countBefore_21 : decode cX7_countBefore 21 = .ok (.aload_n 3, 1) := by decide +kernel
theorem dX7_countBefore_22 : decode cX7_countBefore 22 = .ok (.iload 5, 2) := by decide +kernel
theorem dX7_countBefore_24 : decode cX7_countBefore 24 = .ok (.aaload, 1) := by decide +kernel
theorem dX7_countBefore_25 : decode cX7_countBefore 25 = .ok (.astore 6, 2) := by decide +kernel
theorem dX7_countBefore_27 : decode cX7_countBefore 27 = .ok (.aload 6, 2) := by decide +kernel
theorem dX7_countBefore_29 : decode cX7_countBefore 29 = .ok (.getfield 240, 3) := by decide +kernel
theorem dX7_countBefore_32 : decode cX7_countBefore 32 = .ok (.aload_n 1, 1) := by decide +kernel
theorem dX7_countBefore_33 : decode cX7_countBefore 33 = .ok (.getfield 240, 3) := by decide +kernel
theorem dX7_countBefore_36 : decode cX7_countBefore 36 = .ok (.if_icmp .ne 15, 3) := by decide +kernel
theorem dX7_countBefore_39 : decode cX7_countBefore 39 = .ok (.aload 6, 2) := by decide +kernel
theorem dX7_countBefore_41 : decode cX7_countBefore 41 = .ok (.aload_n 1, 1) := by decide +kernel
theorem dX7_countBefore_42 : decode cX7_countBefore 42 = .ok (.invokevirtual 271, 3) := by decide +kernel
theorem dX7_countBefore_45 : decode cX7_countBefore 45 = .ok (.ifCond .eq 6, 3) := by decide +kernel
theorem dX7_countBefore_48 : decode cX7_countBefore 48 = .ok (.iinc 2 1, 3) := by decide +kernel
theorem dX7_countBefore_51 : decode cX7_countBefore 51 = .ok (.iinc 5 1, 3) := by decide +kernel
theorem dX7_countBefore_54 : decode cX7_countBefore 54 = .ok (.goto (-40), 3) := by decide +kernel
theorem dX7_countBefore_57 : decode cX7_countBefore 57 = .ok (.iload_n 2, 1) := by decide +kernel
theorem dX7_countBefore_58 : decode cX7_countBefore 58 = .ok (.ireturn, 1) := by decide +kernel
theorem dX7_seize_0 : decode cX7_seize 0 = .ok (.aload_n 2, 1) := by decide +kernel
theorem dX7_seize_1 : decode cX7_seize 1 = .ok (.ifnonnull 4, 3) := by decide +kernel
theorem dX7_seize_4 : decode cX7_seize 4 = .ok (.return_, 1) := by decide +kernel
theorem dX7_seize_5 : decode cX7_seize 5 = .ok (.iload_n 3, 1) := by decide +kernel
theorem dX7_seize_6 : decode cX7_seize 6 = .ok (.aload_n 2, 1) := by decide +kernel
theorem dX7_seize_7 : decode cX7_seize 7 = .ok (.getfield 128, 3) := by decide +kernel
theorem dX7_seize_10 : decode cX7_seize 10 = .ok (.if_icmp .le 10, 3) := by decide +kernel
theorem dX7_seize_13 : decode cX7_seize 13 = .ok (.aload_n 1, 1) := by decide +kernel
theorem dX7_seize_14 : decode cX7_seize 14 = .ok (.bipush 6, 2) := by decide +kernel
theorem dX7_seize_16 : decode cX7_seize 16 = .ok (.putfield 92, 3) := by decide +kernel
theorem dX7_seize_19 : decode cX7_seize 19 = .ok (.return_, 1) := by decide +kernel
theorem dX7_seize_20 : decode cX7_seize 20 = .ok (.aload_n 0, 1) := by decide +kernel
theorem dX7_seize_21 : decode cX7_seize 21 = .ok (.aload_n 1, 1) := by decide +kernel
theorem dX7_seize_22 : decode cX7_seize 22 = .ok (.aload_n 2, 1) := by decide +kernel
theorem dX7_seize_23 : decode cX7_seize 23 = .ok (.iload_n 3, 1) := by decide +kernel
theorem dX7_seize_24 : decode cX7_seize 24 = .ok (.iconst 0, 1) := by decide +kernel
theorem dX7_seize_25 : decode cX7_seize 25 = .ok (.invokevirtual 278, 3) := by decide +kernel
theorem dX7_seize_28 : decode cX7_seize 28 = .ok (.aload_n 0, 1) := by decide +kernel
theorem dX7_seize_29 : decode cX7_seize 29 = .ok (.aload_n 2, 1) := by decide +kernel
theorem dX7_seize_30 : decode cX7_seize 30 = .ok (.getfield 137, 3) := by decide +kernel
theorem dX7_seize_33 : decode cX7_seize 33 = .ok (.invokevirtual 237, 3) := by decide +kernel
theorem dX7_seize_36 : decode cX7_seize 36 = .ok (.aload_n 1, 1) := by decide +kernel
theorem dX7_seize_37 : decode cX7_seize 37 = .ok (.if_acmp .ne 7, 3) := by decide +kernel
theorem dX7_seize_40 : decode cX7_seize 40 = .ok (.iconst 1, 1) := by decide +kernel
theorem dX7_seize_41 : decode cX7_seize 41 = .ok (.goto 4, 3) := by decide +kernel
theorem dX7_seize_44 : decode cX7_seize 44 = .ok (.iconst 0, 1) := by decide +kernel
theorem dX7_seize_45 : decode cX7_seize 45 = .ok (.istore 4, 2) := by decide +kernel
theorem dX7_seize_47 : decode cX7_seize 47 = .ok (.iload 4, 2) := by decide +kernel
theorem dX7_seize_49 : decode cX7_seize 49 = .ok (.ifCond .eq 38, 3) := by decide +kernel
theorem dX7_seize_52 : decode cX7_seize 52 = .ok (.aload_n 2, 1) := by decide +kernel
theorem dX7_seize_53 : decode cX7_seize 53 = .ok (.getfield 282, 3) := by decide +kernel
theorem dX7_seize_56 : decode cX7_seize 56 = .ok (.iconst 2, 1) := by decide +kernel
theorem dX7_seize_57 : decode cX7_seize 57 = .ok (.if_icmp .ne 30, 3) := by decide +kernel
theorem dX7_seize_60 : decode cX7_seize 60 = .ok (.aload_n 2, 1) := by decide +kernel
theorem dX7_seize_61 : decode cX7_seize 61 = .ok (.getfield 131, 3) := by decide +kernel
theorem dX7_seize_64 : decode cX7_seize 64 = .ok (.iload_n 3, 1) := by decide +kernel
theorem dX7_seize_65 : decode cX7_seize 65 = .ok (.if_icmp .ge 22, 3) := by decide +kernel
theorem dX7_seize_68 : decode cX7_seize 68 = .ok (.aload_n 2, 1) := by decide +kernel
theorem dX7_seize_69 : decode cX7_seize 69 = .ok (.getfield 131, 3) := by decide +kernel
theorem dX7_seize_72 : decode cX7_seize 72 = .ok (.aload_n 0, 1) := by decide +kernel
theorem dX7_seize_73 : decode cX7_seize 73 = .ok (.aload_n 1, 1) := by decide +kernel
theorem dX7_seize_74 : decode cX7_seize 74 = .ok (.aload_n 2, 1) := by decide +kernel
theorem dX7_seize_75 : decode cX7_seize 75 = .ok (.invokevirtual 285, 3) := by decide +kernel
theorem dX7_seize_78 : decode cX7_seize 78 = .ok (.iadd, 1) := by decide +kernel
theorem dX7_seize_79 : decode cX7_seize 79 = .ok (.iload_n 3, 1) := by decide +kernel
theorem dX7_seize_80 : decode cX7_seize 80 = .ok (.if_icmp .lt 7, 3) := by decide +kernel
theorem dX7_seize_83 : decode cX7_seize 83 = .ok (.iconst 1, 1) := by decide +kernel
theorem dX7_seize_84 : decode cX7_seize 84 = .ok (.goto 4, 3) := by decide +kernel
theorem dX7_seize_87 : decode cX7_seize 87 = .ok (.iconst 0, 1) := by decide +kernel
theorem dX7_seize_88 : decode cX7_seize 88 = .ok (.istore 5, 2) := by decide +kernel
theorem dX7_seize_90 : decode cX7_seize 90 = .ok (.iconst 0, 1) := by decide +kernel
theorem dX7_seize_91 : decode cX7_seize 91 = .ok (.istore 6, 2) := by decide +kernel
theorem dX7_seize_93 : decode cX7_seize 93 = .ok (.iload 5, 2) := by decide +kernel
theorem dX7_seize_95 : decode cX7_seize 95 = .ok (.ifCond .eq 35, 3) := by decide +kernel
theorem dX7_seize_98 : decode cX7_seize 98 = .ok (.aload_n 2, 1) := by decide +kernel
theorem dX7_seize_99 : decode cX7_seize 99 = .ok (.getfield 131, 3) := by decide +kernel
theorem dX7_seize_102 : decode cX7_seize 102 = .ok (.iload_n 3, 1) := by decide +kernel
theorem dX7_seize_103 : decode cX7_seize 103 = .ok (.if_icmp .ge 27, 3) := by decide +kernel
theorem dX7_seize_106 : decode cX7_seize 106 = .ok (.iload 6, 2) := by decide +kernel
theorem dX7_seize_108 : decode cX7_seize 108 = .ok (.bipush 24, 2) := by decide +kernel
theorem dX7_seize_110 : decode cX7_seize 110 = .ok (.if_icmp .ge 20, 3) := by decide +kernel
theorem dX7_seize_113 : decode cX7_seize 113 = .ok (.aload_n 0, 1) := by decide +kernel
theorem dX7_seize_114 : decode cX7_seize 114 = .ok (.aload_n 0, 1) := by decide +kernel
theorem dX7_seize_115 : decode cX7_seize 115 = .ok (.aload_n 1, 1) := by decide +kernel
theorem dX7_seize_116 : decode cX7_seize 116 = .ok (.aload_n 2, 1) := by decide +kernel
theorem dX7_seize_117 : decode cX7_seize 117 = .ok (.invokevirtual 289, 3) := by decide +kernel
theorem dX7_seize_120 : decode cX7_seize 120 = .ok (.aload_n 2, 1) := by decide +kernel
theorem dX7_seize_121 : decode cX7_seize 121 = .ok (.invokevirtual 293, 3) := by decide +kernel
theorem dX7_seize_124 : decode cX7_seize 124 = .ok (.iinc 6 1, 3) := by decide +kernel
theorem dX7_seize_127 : decode cX7_seize 127 = .ok (.goto (-34), 3) := by decide +kernel
theorem dX7_seize_130 : decode cX7_seize 130 = .ok (.aload_n 2, 1) := by decide +kernel
theorem dX7_seize_131 : decode cX7_seize 131 = .ok (.aload_n 2, 1) := by decide +kernel
theorem dX7_seize_132 : decode cX7_seize 132 = .ok (.getfield 297, 3) := by decide +kernel
theorem dX7_seize_135 : decode cX7_seize 135 = .ok (.aload_n 0, 1) := by decide +kernel
theorem dX7_seize_136 : decode cX7_seize 136 = .ok (.aload_n 2, 1) := by decide +kernel
theorem dX7_seize_137 : decode cX7_seize 137 = .ok (.getfield 137, 3) := by decide +kernel
theorem dX7_seize_140 : decode cX7_seize 140 = .ok (.invokevirtual 140, 3) := by decide +kernel
theorem dX7_seize_143 : decode cX7_seize 143 = .ok (.invokestatic 300, 3) := by decide +kernel
theorem dX7_seize_146 : decode cX7_seize 146 = .ok (.putfield 297, 3) := by decide +kernel
theorem dX7_seize_149 : decode cX7_seize 149 = .ok (.iload 4, 2) := by decide +kernel
theorem dX7_seize_151 : decode cX7_seize 151 = .ok (.ifCond .eq 11, 3) := by decide +kernel
theorem dX7_seize_154 : decode cX7_seize 154 = .ok (.aload_n 2, 1) := by decide +kernel
theorem dX7_seize_155 : decode cX7_seize 155 = .ok (.getfield 131, 3) := by decide +kernel
theorem dX7_seize_158 : decode cX7_seize 158 = .ok (.iload_n 3, 1) := by decide +kernel
theorem dX7_seize_159 : decode cX7_seize 159 = .ok (.if_icmp .ge 4, 3) := by decide +kernel
theorem dX7_seize_162 : decode cX7_seize 162 = .ok (.return_, 1) := by decide +kernel
theorem dX7_seize_163 : decode cX7_seize 163 = .ok (.aload_n 0, 1) := by decide +kernel
theorem dX7_seize_164 : decode cX7_seize 164 = .ok (.aload_n 1, 1) := by decide +kernel
theorem dX7_seize_165 : decode cX7_seize 165 = .ok (.aload_n 2, 1) := by decide +kernel
theorem dX7_seize_166 : decode cX7_seize 166 = .ok (.invokevirtual 306, 3) := by decide +kernel
theorem dX7_seize_169 : decode cX7_seize 169 = .ok (.aload_n 1, 1) := by decide +kernel
theorem dX7_seize_170 : decode cX7_seize 170 = .ok (.bipush 8, 2) := by decide +kernel
theorem dX7_seize_172 : decode cX7_seize 172 = .ok (.putfield 92, 3) := by decide +kernel
theorem dX7_seize_175 : decode cX7_seize 175 = .ok (.iload 5, 2) := by decide +kernel
theorem dX7_seize_177 : decode cX7_seize 177 = .ok (.ifCond .eq 8, 3) := by decide +kernel
theorem dX7_seize_180 : decode cX7_seize 180 = .ok (.aload_n 0, 1) := by decide +kernel
theorem dX7_seize_181 : decode cX7_seize 181 = .ok (.aload_n 2, 1) := by decide +kernel
theorem dX7_seize_182 : decode cX7_seize 182 = .ok (.invokevirtual 265, 3) := by decide +kernel
theorem dX7_seize_185 : decode cX7_seize 185 = .ok (.return_, 1) := by decide +kernel
theorem dX7_queueUp_0 : decode cX7_queueUp 0 = .ok (.aload_n 0, 1) := by decide +kernel
theorem dX7_queueUp_1 : decode cX7_queueUp 1 = .ok (.aload_n 1, 1) := by decide +kernel
theorem dX7_queueUp_2 : decode cX7_queueUp 2 = .ok (.aload_n 2, 1) := by decide +kernel
theorem dX7_queueUp_3 : decode cX7_queueUp 3 = .ok (.getfield 137, 3) := by decide +kernel
theorem dX7_queueUp_6 : decode cX7_queueUp 6 = .ok (.iconst 2, 1) := by decide +kernel
theorem dX7_queueUp_7 : decode cX7_queueUp 7 = .ok (.invokevirtual 212, 3) := by decide +kernel
theorem dX7_queueUp_10 : decode cX7_queueUp 10 = .ok (.aload_n 1, 1) := by decide +kernel
theorem dX7_queueUp_11 : decode cX7_queueUp 11 = .ok (.aload_n 2, 1) := by decide +kernel
theorem dX7_queueUp_12 : decode cX7_queueUp 12 = .ok (.getfield 282, 3) := by decide +kernel
theorem dX7_queueUp_15 : decode cX7_queueUp 15 = .ok (.ifCond .ne 7, 3) := by decide +kernel
theorem dX7_queueUp_18 : decode cX7_queueUp 18 = .ok (.iconst 0, 1) := by decide +kernel
theorem dX7_queueUp_19 : decode cX7_queueUp 19 = .ok (.goto 7, 3) := by decide +kernel
theorem dX7_queueUp_22 : decode cX7_queueUp 22 = .ok (.aload_n 1, 1) := by decide +kernel
theorem dX7_queueUp_23 : decode cX7_queueUp 23 = .ok (.getfield 82, 3) := by decide +kernel
theorem dX7_queueUp_26 : decode cX7_queueUp 26 = .ok (.putfield 259, 3) := by decide +kernel
theorem dX7_queueUp_29 : decode cX7_queueUp 29 = .ok (.aload_n 1, 1) := by decide +kernel
theorem dX7_queueUp_30 : decode cX7_queueUp 30 = .ok (.iload_n 3, 1) := by decide +kernel
theorem dX7_queueUp_31 : decode cX7_queueUp 31 = .ok (.putfield 309, 3) := by decide +kernel
theorem dX7_queueUp_34 : decode cX7_queueUp 34 = .ok (.aload_n 1, 1) := by decide +kernel
theorem dX7_queueUp_35 : decode cX7_queueUp 35 = .ok (.iload 4, 2) := by decide +kernel
theorem dX7_queueUp_37 : decode cX7_queueUp 37 = .ok (.putfield 312, 3) := by decide +kernel
theorem dX7_queueUp_40 : decode cX7_queueUp 40 = .ok (.return_, 1) := by decide +kernel
theorem dX7_giveUnits_0 : decode cX7_giveUnits 0 = .ok (.aload_n 0, 1) := by decide +kernel
theorem dX7_giveUnits_1 : decode cX7_giveUnits 1 = .ok (.dup, 1) := by decide +kernel
theorem dX7_giveUnits_2 : decode cX7_giveUnits 2 = .ok (.getfield 49, 3) := by decide +kernel
theorem dX7_giveUnits_5 : decode cX7_giveUnits 5 = .ok (.iconst 1, 1) := by decide +kernel
theorem dX7_giveUnits_6 : decode cX7_giveUnits 6 = .ok (.iadd, 1) := by decide +kernel
theorem dX7_giveUnits_7 : decode cX7_giveUnits 7 = .ok (.putfield 49, 3) := by decide +kernel
theorem dX7_giveUnits_10 : decode cX7_giveUnits 10 = .ok (.aload_n 1, 1) := by decide +kernel
theorem dX7_giveUnits_11 : decode cX7_giveUnits 11 = .ok (.iconst (-1), 1) := by decide +kernel
theorem dX7_giveUnits_12 : decode cX7_giveUnits 12 = .ok (.putfield 240, 3) := by decide +kernel
theorem dX7_giveUnits_15 : decode cX7_giveUnits 15 = .ok (.aload_n 2, 1) := by decide +kernel
theorem dX7_giveUnits_16 : decode cX7_giveUnits 16 = .ok (.dup, 1) := by decide +kernel
theorem dX7_giveUnits_17 : decode cX7_giveUnits 17 = .ok (.getfield 131, 3) := by decide +kernel
theorem dX7_giveUnits_20 : decode cX7_giveUnits 20 = .ok (.aload_n 1, 1) := by decide +kernel
theorem dX7_giveUnits_21 : decode cX7_giveUnits 21 = .ok (.getfield 309, 3) := by decide +kernel
theorem dX7_giveUnits_24 : decode cX7_giveUnits 24 = .ok (.isub, 1) := by decide +kernel
theorem dX7_giveUnits_25 : decode cX7_giveUnits 25 = .ok (.putfield 131, 3) := by decide +kernel
theorem dX7_giveUnits_28 : decode cX7_giveUnits 28 = .ok (.aload_n 1, 1) := by decide +kernel
theorem dX7_giveUnits_29 : decode cX7_giveUnits 29 = .ok (.getfield 316, 3) := by decide +kernel
theorem dX7_giveUnits_32 : decode cX7_giveUnits 32 = .ok (.aload_n 2, 1) := by decide +kernel
theorem dX7_giveUnits_33 : decode cX7_giveUnits 33 = .ok (.getfield 137, 3) := by decide +kernel
theorem dX7_giveUnits_36 : decode cX7_giveUnits 36 = .ok (.aload_n 1, 1) := by decide +kernel
theorem dX7_giveUnits_37 : decode cX7_giveUnits 37 = .ok (.getfield 316, 3) := by decide +kernel
theorem dX7_giveUnits_40 : decode cX7_giveUnits 40 = .ok (.aload_n 2, 1) := by decide +kernel
theorem dX7_giveUnits_41 : decode cX7_giveUnits 41 = .ok (.getfield 137, 3) := by decide +kernel
theorem dX7_giveUnits_44 : decode cX7_giveUnits 44 = .ok (.invokestatic 251, 3) := by decide +kernel
theorem dX7_giveUnits_47 : decode cX7_giveUnits 47 = .ok (.aload_n 1, 1) := by decide +kernel
theorem dX7_giveUnits_48 : decode cX7_giveUnits 48 = .ok (.getfield 309, 3) := by decide +kernel
theorem dX7_giveUnits_51 : decode cX7_giveUnits 51 = .ok (.iadd, 1) := by decide +kernel
theorem dX7_giveUnits_52 : decode cX7_giveUnits 52 = .ok (.invokestatic 255, 3) := by decide +kernel
theorem dX7_giveUnits_55 : decode cX7_giveUnits 55 = .ok (.aload_n 1, 1) := by decide +kernel
theorem dX7_giveUnits_56 : decode cX7_giveUnits 56 = .ok (.getfield 319, 3) := by decide +kernel
theorem dX7_giveUnits_59 : decode cX7_giveUnits 59 = .ok (.aload_n 2, 1) := by decide +kernel
theorem dX7_giveUnits_60 : decode cX7_giveUnits 60 = .ok (.getfield 137, 3) := by decide +kernel
theorem dX7_giveUnits_63 : decode cX7_giveUnits 63 = .ok (.aload_n 0, 1) := by decide +kernel
theorem dX7_giveUnits_64 : decode cX7_giveUnits 64 = .ok (.getfield 49, 3) := by decide +kernel
theorem dX7_giveUnits_67 : decode cX7_giveUnits 67 = .ok (.invokestatic 255, 3) := by decide +kernel
theorem dX7_giveUnits_70 : decode cX7_giveUnits 70 = .ok (.return_, 1) := by decide +kernel
theorem dX7_unitsToTake_0 : decode cX7_unitsToTake 0 = .ok (.aload_n 2, 1) := by decide +kernel
theorem dX7_unitsToTake_1 : decode cX7_unitsToTake 1 = .ok (.getfield 92, 3) := by decide +kernel
theorem dX7_unitsToTake_4 : decode cX7_unitsToTake 4 = .ok (.iconst 1, 1) := by decide +kernel
theorem dX7_unitsToTake_5 : decode cX7_unitsToTake 5 = .ok (.if_icmp .ne 18, 3) := by decide +kernel
theorem dX7_unitsToTake_8 : decode cX7_unitsToTake 8 = .ok (.aload_n 2, 1) := by decide +kernel
theorem dX7_unitsToTake_9 : decode cX7_unitsToTake 9 = .ok (.getfield 82, 3) := by decide +kernel
theorem dX7_unitsToTake_12 : decode cX7_unitsToTake 12 = .ok (.aload_n 1, 1) := by decide +kernel
theorem dX7_unitsToTake_13 : decode cX7_unitsToTake 13 = .ok (.getfield 82, 3) := by decide +kernel
theorem dX7_unitsToTake_16 : decode cX7_unitsToTake 16 = .ok (.if_icmp .le 7, 3) := by decide +kernel
theorem dX7_unitsToTake_19 : decode cX7_unitsToTake 19 = .ok (.iconst 1, 1) := by decide +kernel
theorem dX7_unitsToTake_20 : decode cX7_unitsToTake 20 = .ok (.goto 4, 3) := by decide +kernel
theorem dX7_unitsToTake_23 : decode cX7_unitsToTake 23 = .ok (.iconst 0, 1) := by decide +kernel
theorem dX7_unitsToTake_24 : decode cX7_unitsToTake 24 = .ok (.istore 4, 2) := by decide +kernel
theorem dX7_unitsToTake_26 : decode cX7_unitsToTake 26 = .ok (.iload 4, 2) := by decide +kernel
theorem dX7_unitsToTake_28 : decode cX7_unitsToTake 28 = .ok (.ifCond .eq 17, 3) := by decide +kernel
theorem dX7_unitsToTake_31 : decode cX7_unitsToTake 31 = .ok (.aload_n 2, 1) := by decide +kernel
theorem dX7_unitsToTake_32 : decode cX7_unitsToTake 32 = .ok (.getfield 316, 3) := by decide +kernel
theorem dX7_unitsToTake_35 : decode cX7_unitsToTake 35 = .ok (.aload_n 3, 1) := by decide +kernel
theorem dX7_unitsToTake_36 : decode cX7_unitsToTake 36 = .ok (.getfield 137, 3) := by decide +kernel
theorem dX7_unitsToTake_39 : decode cX7_unitsToTake 39 = .ok (.invokestatic 251, 3) := by decide +kernel
theorem dX7_unitsToTake_42 : decode cX7_unitsToTake 42 = .ok (.goto 4, 3) := by decide +kernel
theorem dX7_unitsToTake_45 : decode cX7_unitsToTake 45 = .ok (.iconst 0, 1) := by decide +kernel
theorem dX7_unitsToTake_46 : decode cX7_unitsToTake 46 = .ok (.ireturn, 1) := by decide +kernel
theorem dX7_unitsOfVictims_0 : decode cX7_unitsOfVictims 0 = .ok (.iconst 0, 1) := by decide +kernel
theorem dX7_unitsOfVictims_1 : decode cX7_unitsOfVictims 1 = .ok (.istore_n 3, 1) := by decide +kernel
theorem dX7_unitsOfVictims_2 : decode cX7_unitsOfVictims 2 = .ok (.aload_n 0, 1) := by decide +kernel
theorem dX7_unitsOfVictims_3 : decode cX7_unitsOfVictims 3 = .ok (.getfield 23, 3) := by decide +kernel
theorem dX7_unitsOfVictims_6 : decode cX7_unitsOfVictims 6 = .ok (.astore 4, 2) := by decide +kernel
theorem dX7_unitsOfVictims_8 : decode cX7_unitsOfVictims 8 = .ok (.aload 4, 2) := by decide +kernel
theorem dX7_unitsOfVictims_10 : decode cX7_unitsOfVictims 10 = .ok (.arraylength, 1) := by decide +kernel
theorem dX7_unitsOfVictims_11 : decode cX7_unitsOfVictims 11 = .ok (.istore 5, 2) := by decide +kernel
theorem dX7_unitsOfVictims_13 : decode cX7_unitsOfVictims 13 = .ok (.iconst 0, 1) := by decide +kernel
theorem dX7_unitsOfVictims_14 : decode cX7_unitsOfVictims 14 = .ok (.istore 6, 2) := by decide +kernel
theorem dX7_unitsOfVictims_16 : decode cX7_unitsOfVictims 16 = .ok (.iload 6, 2) := by decide +kernel
theorem dX7_unitsOfVictims_18 : decode cX7_unitsOfVictims 18 = .ok (.iload 5, 2) := by decide +kernel
theorem dX7_unitsOfVictims_20 : decode cX7_unitsOfVictims 20 = .ok (.if_icmp .ge 27, 3) := by decide +kernel
theorem dX7_unitsOfVictims_23 : decode cX7_unitsOfVictims 23 = .ok (.aload 4, 2) := by decide +kernel
theorem dX7_unitsOfVictims_25 : decode cX7_unitsOfVictims 25 = .ok (.iload 6, 2) := by decide +kernel
theorem dX7_unitsOfVictims_27 : decode cX7_unitsOfVictims 27 = .ok (.aaload, 1) := by decide +kernel
theorem dX7_unitsOfVictims_28 : decode cX7_unitsOfVictims 28 = .ok (.astore 7, 2) := by decide +kernel
theorem dX7_unitsOfVictims_30 : decode cX7_unitsOfVictims 30 = .ok (.iload_n 3, 1) := by decide +kernel
theorem dX7_unitsOfVictims_31 : decode cX7_unitsOfVictims 31 = .ok (.aload_n 0, 1) := by decide +kernel
theorem dX7_unitsOfVictims_32 : decode cX7_unitsOfVictims 32 = .ok (.aload_n 1, 1) := by decide +kernel
theorem dX7_unitsOfVictims_33 : decode cX7_unitsOfVictims 33 = .ok (.aload 7, 2) := by decide +kernel
theorem dX7_unitsOfVictims_35 : decode cX7_unitsOfVictims 35 = .ok (.aload_n 2, 1) := by decide +kernel
theorem dX7_unitsOfVictims_36 : decode cX7_unitsOfVictims 36 = .ok (.invokevirtual 322, 3) := by decide +kernel
theorem dX7_unitsOfVictims_39 : decode cX7_unitsOfVictims 39 = .ok (.iadd, 1) := by decide +kernel
theorem dX7_unitsOfVictims_40 : decode cX7_unitsOfVictims 40 = .ok (.istore_n 3, 1) := by decide +kernel
theorem dX7_unitsOfVictims_41 : decode cX7_unitsOfVictims 41 = .ok (.iinc 6 1, 3) := by decide +kernel
theorem dX7_unitsOfVictims_44 : decode cX7_unitsOfVictims 44 = .ok (.goto (-28), 3) := by decide +kernel
theorem dX7_unitsOfVictims_47 : decode cX7_unitsOfVictims 47 = .ok (.iload_n 3, 1) := by decide +kernel
theorem dX7_unitsOfVictims_48 : decode cX7_unitsOfVictims 48 = .ok (.ireturn, 1) := by decide +kernel
theorem dX7_nextVictim_0 : decode cX7_nextVictim 0 = .ok (.aconst_null, 1) := by decide +kernel
theorem dX7_nextVictim_1 : decode cX7_nextVictim 1 = .ok (.astore_n 3, 1) := by decide +kernel
theorem dX7_nextVictim_2 : decode cX7_nextVictim 2 = .ok (.aload_n 0, 1) := by decide +kernel
theorem dX7_nextVictim_3 : decode cX7_nextVictim 3 = .ok (.getfield 23, 3) := by decide +kernel
theorem dX7_nextVictim_6 : decode cX7_nextVictim 6 = .ok (.astore 4, 2) := by decide +kernel
theorem dX7_nextVictim_8 : decode cX7_nextVictim 8 = .ok (.aload 4, 2) := by decide +kernel
theorem dX7_nextVictim_10 : decode cX7_nextVictim 10 = .ok (.arraylength, 1) := by decide +kernel
theorem dX7_nextVictim_11 : decode cX7_nextVictim 11 = .ok (.istore 5, 2) := by decide +kernel
theorem dX7_nextVictim_13 : decode cX7_nextVictim 13 = .ok (.iconst 0, 1) := by decide +kernel
theorem dX7_nextVictim_14 : decode cX7_nextVictim 14 = .ok (.istore 6, 2) := by decide +kernel
theorem dX7_nextVictim_16 : decode cX7_nextVictim 16 = .ok (.iload 6, 2) := by decide +kernel
theorem dX7_nextVictim_18 : decode cX7_nextVictim 18 = .ok (.iload 5, 2) := by decide +kernel
theorem dX7_nextVictim_20 : decode cX7_nextVictim 20 = .ok (.if_icmp .ge 47, 3) := by decide +kernel
theorem dX7_nextVictim_23 : decode cX7_nextVictim 23 = .ok (.aload 4, 2) := by decide +kernel
theorem dX7_nextVictim_25 : decode cX7_nextVictim 25 = .ok (.iload 6, 2) := by decide +kernel
theorem dX7_nextVictim_27 : decode cX7_nextVictim 27 = .ok (.aaload, 1) := by decide +kernel
theorem dX7_nextVictim_28 : decode cX7_nextVictim 28 = .ok (.astore 7, 2) := by decide +kernel
theorem dX7_nextVictim_30 : decode cX7_nextVictim 30 = .ok (.aload_n 0, 1) := by decide +kernel
theorem dX7_nextVictim_31 : decode cX7_nextVictim 31 = .ok (.aload_n 1, 1) := by decide +kernel
theorem dX7_nextVictim_32 : decode cX7_nextVictim 32 = .ok (.aload 7, 2) := by decide +kernel
theorem dX7_nextVictim_34 : decode cX7_nextVictim 34 = .ok (.aload_n 2, 1) := by decide +kernel
theorem dX7_nextVictim_35 : decode cX7_nextVictim 35 = .ok (.invokevirtual 322, 3) := by decide +kernel
theorem dX7_nextVictim_38 : decode cX7_nextVictim 38 = .ok (.ifCond .le 23, 3) := by decide +kernel
theorem dX7_nextVictim_41 : decode cX7_nextVictim 41 = .ok (.aload_n 3, 1) := by decide +kernel
theorem dX7_nextVictim_42 : decode cX7_nextVictim 42 = .ok (.ifnull 16, 3) := by decide +kernel
theorem dX7_nextVictim_45 : decode cX7_nextVictim 45 = .ok (.aload 7, 2) := by decide +kernel
theorem dX7_nextVictim_47 : decode cX7_nextVictim 47 = .ok (.aload_n 3, 1) := by decide +kernel
theorem dX7_nextVictim_48 : decode cX7_nextVictim 48 = .ok (.aload_n 2, 1) := by decide +kernel
theorem dX7_nextVictim_49 : decode cX7_nextVictim 49 = .ok (.getfield 137, 3) := by decide +kernel
theorem dX7_nextVictim_52 : decode cX7_nextVictim 52 = .ok (.invokevirtual 326, 3) := by decide +kernel
theorem dX7_nextVictim_55 : decode cX7_nextVictim 55 = .ok (.ifCond .eq 6, 3) := by decide +kernel
theorem dX7_nextVictim_58 : decode cX7_nextVictim 58 = .ok (.aload 7, 2) := by decide +kernel
theorem dX7_nextVictim_60 : decode cX7_nextVictim 60 = .ok (.astore_n 3, 1) := by decide +kernel
theorem dX7_nextVictim_61 : decode cX7_nextVictim 61 = .ok (.iinc 6 1, 3) := by decide +kernel
theorem dX7_nextVictim_64 : decode cX7_nextVictim 64 = .ok (.goto (-48), 3) := by decide +kernel
theorem dX7_nextVictim_67 : decode cX7_nextVictim 67 = .ok (.aload_n 3, 1) := by decide +kernel
theorem dX7_nextVictim_68 : decode cX7_nextVictim 68 = .ok (.areturn, 1) := by decide +kernel
theorem dX7_throwOut_0 : decode cX7_throwOut 0 = .ok (.aload_n 1, 1) := by decide +kernel
theorem dX7_throwOut_1 : decode cX7_throwOut 1 = .ok (.ifnonnull 4, 3) := by decide +kernel
theorem dX7_throwOut_4 : decode cX7_throwOut 4 = .ok (.return_, 1) := by decide +kernel
theorem dX7_throwOut_5 : decode cX7_throwOut 5 = .ok (.aload_n 1, 1) := by decide +kernel
theorem dX7_throwOut_6 : decode cX7_throwOut 6 = .ok (.getfield 316, 3) := by decide +kernel
theorem dX7_throwOut_9 : decode cX7_throwOut 9 = .ok (.aload_n 2, 1) := by decide +kernel
theorem dX7_throwOut_10 : decode cX7_throwOut 10 = .ok (.getfield 137, 3) := by decide +kernel
theorem dX7_throwOut_13 : decode cX7_throwOut 13 = .ok (.invokestatic 251, 3) := by decide +kernel
theorem dX7_throwOut_16 : decode cX7_throwOut 16 = .ok (.istore_n 3, 1) := by decide +kernel
theorem dX7_throwOut_17 : decode cX7_throwOut 17 = .ok (.aload_n 1, 1) := by decide +kernel
theorem dX7_throwOut_18 : decode cX7_throwOut 18 = .ok (.getfield 316, 3) := by decide +kernel
theorem dX7_throwOut_21 : decode cX7_throwOut 21 = .ok (.aload_n 2, 1) := by decide +kernel
theorem dX7_throwOut_22 : decode cX7_throwOut 22 = .ok (.getfield 137, 3) := by decide +kernel
theorem dX7_throwOut_25 : decode cX7_throwOut 25 = .ok (.iconst 0, 1) := by decide +kernel
theorem dX7_throwOut_26 : decode cX7_throwOut 26 = .ok (.invokestatic 255, 3) := by decide +kernel
theorem dX7_throwOut_29 : decode cX7_throwOut 29 = .ok (.aload_n 2, 1) := by decide +kernel
theorem dX7_throwOut_30 : decode cX7_throwOut 30 = .ok (.dup, 1) := by decide +kernel
theorem dX7_throwOut_31 : decode cX7_throwOut 31 = .ok (.getfield 131, 3) := by decide +kernel
theorem dX7_throwOut_34 : decode cX7_throwOut 34 = .ok (.iload_n 3, 1) := by decide +kernel
theorem dX7_throwOut_35 : decode cX7_throwOut 35 = .ok (.iadd, 1) := by decide +kernel
theorem dX7_throwOut_36 : decode cX7_throwOut 36 = .ok (.putfield 131, 3) := by decide +kernel
theorem dX7_throwOut_39 : decode cX7_throwOut 39 = .ok (.aload_n 1, 1) := by decide +kernel
theorem dX7_throwOut_40 : decode cX7_throwOut 40 = .ok (.aload_n 1, 1) := by decide +kernel
theorem dX7_throwOut_41 : decode cX7_throwOut 41 = .ok (.getfield 95, 3) := by decide +kernel
theorem dX7_throwOut_44 : decode cX7_throwOut 44 = .ok (.aload_n 0, 1) := by decide +kernel
theorem dX7_throwOut_45 : decode cX7_throwOut 45 = .ok (.getfield 40, 3) := by decide +kernel
theorem dX7_throwOut_48 : decode cX7_throwOut 48 = .ok (.isub, 1) := by decide +kernel
theorem dX7_throwOut_49 : decode cX7_throwOut 49 = .ok (.putfield 101, 3) := by decide +kernel
theorem dX7_throwOut_52 : decode cX7_throwOut 52 = .ok (.aload_n 1, 1) := by decide +kernel
theorem dX7_throwOut_53 : decode cX7_throwOut 53 = .ok (.iconst (-1), 1) := by decide +kernel
theorem dX7_throwOut_54 : decode cX7_throwOut 54 = .ok (.putfield 95, 3) := by decide +kernel
theorem dX7_throwOut_57 : decode cX7_throwOut 57 = .ok (.aload_n 0, 1) := by decide +kernel
theorem dX7_throwOut_58 : decode cX7_throwOut 58 = .ok (.aload_n 1, 1) := by decide +kernel
theorem dX7_throwOut_59 : decode cX7_throwOut 59 = .ok (.aload_n 2, 1) := by decide +kernel
theorem dX7_throwOut_60 : decode cX7_throwOut 60 = .ok (.iload_n 3, 1) := by decide +kernel
theorem dX7_throwOut_61 : decode cX7_throwOut 61 = .ok (.iconst 1, 1) := by decide +kernel
theorem dX7_throwOut_62 : decode cX7_throwOut 62 = .ok (.invokevirtual 278, 3) := by decide +kernel
theorem dX7_throwOut_65 : decode cX7_throwOut 65 = .ok (.return_, 1) := by decide +kernel
theorem dX7_release_0 : decode cX7_release 0 = .ok (.aload_n 2, 1) := by decide +kernel
theorem dX7_release_1 : decode cX7_release 1 = .ok (.ifnonnull 4, 3) := by decide +kernel
theorem dX7_release_4 : decode cX7_release 4 = .ok (.return_, 1) := by decide +kernel
theorem dX7_release_5 : decode cX7_release 5 = .ok (.aload_n 1, 1) := by decide +kernel
theorem dX7_release_6 : decode cX7_release 6 = .ok (.getfield 316, 3) := by decide +kernel
theorem dX7_release_9 : decode cX7_release 9 = .ok (.aload_n 2, 1) := by decide +kernel
theorem dX7_release_10 : decode cX7_release 10 = .ok (.getfield 137, 3) := by decide +kernel
theorem dX7_release_13 : decode cX7_release 13 = .ok (.invokestatic 251, 3) := by decide +kernel
theorem dX7_release_16 : decode cX7_release 16 = .ok (.istore 4, 2) := by decide +kernel
theorem dX7_release_18 : decode cX7_release 18 = .ok (.iload_n 3, 1) := by decide +kernel
theorem dX7_release_19 : decode cX7_release 19 = .ok (.iload 4, 2) := by decide +kernel
theorem dX7_release_21 : decode cX7_release 21 = .ok (.invokestatic 330, 3) := by decide +kernel
theorem dX7_release_24 : decode cX7_release 24 = .ok (.istore 5, 2) := by decide +kernel
theorem dX7_release_26 : decode cX7_release 26 = .ok (.aload_n 1, 1) := by decide +kernel
theorem dX7_release_27 : decode cX7_release 27 = .ok (.getfield 316, 3) := by decide +kernel
theorem dX7_release_30 : decode cX7_release 30 = .ok (.aload_n 2, 1) := by decide +kernel
theorem dX7_release_31 : decode cX7_release 31 = .ok (.getfield 137, 3) := by decide +kernel
theorem dX7_release_34 : decode cX7_release 34 = .ok (.iload 4, 2) := by decide +kernel
theorem dX7_release_36 : decode cX7_release 36 = .ok (.iload 5, 2) := by decide +kernel
theorem dX7_release_38 : decode cX7_release 38 = .ok (.isub, 1) := by decide +kernel
theorem dX7_release_39 : decode cX7_release 39 = .ok (.invokestatic 255, 3) := by decide +kernel
theorem dX7_release_42 : decode cX7_release 42 = .ok (.aload_n 2, 1) := by decide +kernel
theorem dX7_release_43 : decode cX7_release 43 = .ok (.dup, 1) := by decide +kernel
theorem dX7_release_44 : decode cX7_release 44 = .ok (.getfield 131, 3) := by decide +kernel
theorem dX7_release_47 : decode cX7_release 47 = .ok (.iload 5, 2) := by decide +kernel
theorem dX7_release_49 : decode cX7_release 49 = .ok (.iadd, 1) := by decide +kernel
theorem dX7_release_50 : decode cX7_release 50 = .ok (.putfield 131, 3) := by decide +kernel
theorem dX7_release_53 : decode cX7_release 53 = .ok (.aload_n 0, 1) := by decide +kernel
theorem dX7_release_54 : decode cX7_release 54 = .ok (.aload_n 2, 1) := by decide +kernel
theorem dX7_release_55 : decode cX7_release 55 = .ok (.invokevirtual 265, 3) := by decide +kernel
theorem dX7_release_58 : decode cX7_release 58 = .ok (.return_, 1) := by decide +kernel
theorem dX7_serve_0 : decode cX7_serve 0 = .ok (.iconst 0, 1) := by decide +kernel
theorem dX7_serve_1 : decode cX7_serve 1 = .ok (.istore_n 2, 1) := by decide +kernel
theorem dX7_serve_2 : decode cX7_serve 2 = .ok (.aload_n 1, 1) := by decide +kernel
theorem dX7_serve_3 : decode cX7_serve 3 = .ok (.ifnull 78, 3) := by decide +kernel
theorem dX7_serve_6 : decode cX7_serve 6 = .ok (.iload_n 2, 1) := by decide +kernel
theorem dX7_serve_7 : decode cX7_serve 7 = .ok (.bipush 24, 2) := by decide +kernel
theorem dX7_serve_9 : decode cX7_serve 9 = .ok (.if_icmp .ge 72, 3) := by decide +kernel
theorem dX7_serve_12 : decode cX7_serve 12 = .ok (.aload_n 0, 1) := by decide +kernel
theorem dX7_serve_13 : decode cX7_serve 13 = .ok (.aload_n 1, 1) := by decide +kernel
theorem dX7_serve_14 : decode cX7_serve 14 = .ok (.getfield 137, 3) := by decide +kernel
theorem dX7_serve_17 : decode cX7_serve 17 = .ok (.invokevirtual 237, 3) := by decide +kernel
theorem dX7_serve_20 : decode cX7_serve 20 = .ok (.astore_n 3, 1) := by decide +kernel
theorem dX7_serve_21 : decode cX7_serve 21 = .ok (.aload_n 3, 1) := by decide +kernel
theorem dX7_serve_22 : decode cX7_serve 22 = .ok (.ifnull 14, 3) := by decide +kernel
theorem dX7_serve_25 : decode cX7_serve 25 = .ok (.aload_n 3, 1) := by decide +kernel
theorem dX7_serve_26 : decode cX7_serve 26 = .ok (.getfield 309, 3) := by decide +kernel
theorem dX7_serve_29 : decode cX7_serve 29 = .ok (.aload_n 1, 1) := by decide +kernel
theorem dX7_serve_30 : decode cX7_serve 30 = .ok (.getfield 131, 3) := by decide +kernel
theorem dX7_serve_33 : decode cX7_serve 33 = .ok (.if_icmp .le 4, 3) := by decide +kernel
theorem dX7_serve_36 : decode cX7_serve 36 = .ok (.return_, 1) := by decide +kernel
theorem dX7_serve_37 : decode cX7_serve 37 = .ok (.aload_n 0, 1) := by decide +kernel
theorem dX7_serve_38 : decode cX7_serve 38 = .ok (.aload_n 3, 1) := by decide +kernel
theorem dX7_serve_39 : decode cX7_serve 39 = .ok (.aload_n 1, 1) := by decide +kernel
theorem dX7_serve_40 : decode cX7_serve 40 = .ok (.invokevirtual 306, 3) := by decide +kernel
theorem dX7_serve_43 : decode cX7_serve 43 = .ok (.aload_n 3, 1) := by decide +kernel
theorem dX7_serve_44 : decode cX7_serve 44 = .ok (.getfield 312, 3) := by decide +kernel
theorem dX7_serve_47 : decode cX7_serve 47 = .ok (.ifCond .eq 21, 3) := by decide +kernel
theorem dX7_serve_50 : decode cX7_serve 50 = .ok (.aload_n 0, 1) := by decide +kernel
theorem dX7_serve_51 : decode cX7_serve 51 = .ok (.aload_n 3, 1) := by decide +kernel
theorem dX7_serve_52 : decode cX7_serve 52 = .ok (.iconst 1, 1) := by decide +kernel
theorem dX7_serve_53 : decode cX7_serve 53 = .ok (.aload_n 3, 1) := by decide +kernel
theorem dX7_serve_54 : decode cX7_serve 54 = .ok (.getfield 101, 3) := by decide +kernel
theorem dX7_serve_57 : decode cX7_serve 57 = .ok (.invokevirtual 88, 3) := by decide +kernel
theorem dX7_serve_60 : decode cX7_serve 60 = .ok (.aload_n 3, 1) := by decide +kernel
theorem dX7_serve_61 : decode cX7_serve 61 = .ok (.iconst 0, 1) := by decide +kernel
theorem dX7_serve_62 : decode cX7_serve 62 = .ok (.putfield 101, 3) := by decide +kernel
theorem dX7_serve_65 : decode cX7_serve 65 = .ok (.goto 10, 3) := by decide +kernel
theorem dX7_serve_68 : decode cX7_serve 68 = .ok (.aload_n 0, 1) := by decide +kernel
theorem dX7_serve_69 : decode cX7_serve 69 = .ok (.aload_n 3, 1) := by decide +kernel
theorem dX7_serve_70 : decode cX7_serve 70 = .ok (.iconst 0, 1) := by decide +kernel
theorem dX7_serve_71 : decode cX7_serve 71 = .ok (.iconst 0, 1) := by decide +kernel
theorem dX7_serve_72 : decode cX7_serve 72 = .ok (.invokevirtual 88, 3) := by decide +kernel
theorem dX7_serve_75 : decode cX7_serve 75 = .ok (.iinc 2 1, 3) := by decide +kernel
theorem dX7_serve_78 : decode cX7_serve 78 = .ok (.goto (-76), 3) := by decide +kernel
theorem dX7_serve_81 : decode cX7_serve 81 = .ok (.return_, 1) := by decide +kernel
theorem dX7_exchange_0 : decode cX7_exchange 0 = .ok (.aload_n 2, 1) := by decide +kernel
theorem dX7_exchange_1 : decode cX7_exchange 1 = .ok (.ifnonnull 4, 3) := by decide +kernel
theorem dX7_exchange_4 : decode cX7_exchange 4 = .ok (.return_, 1) := by decide +kernel
theorem dX7_exchange_5 : decode cX7_exchange 5 = .ok (.iload_n 3, 1) := by decide +kernel
theorem dX7_exchange_6 : decode cX7_exchange 6 = .ok (.aload_n 2, 1) := by decide +kernel
theorem dX7_exchange_7 : decode cX7_exchange 7 = .ok (.getfield 333, 3) := by decide +kernel
theorem dX7_exchange_10 : decode cX7_exchange 10 = .ok (.if_icmp .le 10, 3) := by decide +kernel
theorem dX7_exchange_13 : decode cX7_exchange 13 = .ok (.aload_n 1, 1) := by decide +kernel
theorem dX7_exchange_14 : decode cX7_exchange 14 = .ok (.bipush 6, 2) := by decide +kernel
theorem dX7_exchange_16 : decode cX7_exchange 16 = .ok (.putfield 92, 3) := by decide +kernel
theorem dX7_exchange_19 : decode cX7_exchange 19 = .ok (.return_, 1) := by decide +kernel
theorem dX7_exchange_20 : decode cX7_exchange 20 = .ok (.iload 4, 2) := by decide +kernel
theorem dX7_exchange_22 : decode cX7_exchange 22 = .ok (.ifCond .eq 8, 3) := by decide +kernel
theorem dX7_exchange_25 : decode cX7_exchange 25 = .ok (.iload_n 3, 1) := by decide +kernel
theorem dX7_exchange_26 : decode cX7_exchange 26 = .ok (.ineg, 1) := by decide +kernel
theorem dX7_exchange_27 : decode cX7_exchange 27 = .ok (.goto 4, 3) := by decide +kernel
theorem dX7_exchange_30 : decode cX7_exchange 30 = .ok (.iload_n 3, 1) := by decide +kernel
theorem dX7_exchange_31 : decode cX7_exchange 31 = .ok (.istore 5, 2) := by decide +kernel
theorem dX7_exchange_33 : decode cX7_exchange 33 = .ok (.aload_n 2, 1) := by decide +kernel
theorem dX7_exchange_34 : decode cX7_exchange 34 = .ok (.iload 4, 2) := by decide +kernel
theorem dX7_exchange_36 : decode cX7_exchange 36 = .ok (.invokevirtual 336, 3) := by decide +kernel
theorem dX7_exchange_39 : decode cX7_exchange 39 = .ok (.istore 6, 2) := by decide +kernel
theorem dX7_exchange_41 : decode cX7_exchange 41 = .ok (.aload_n 0, 1) := by decide +kernel
theorem dX7_exchange_42 : decode cX7_exchange 42 = .ok (.iload 6, 2) := by decide +kernel
theorem dX7_exchange_44 : decode cX7_exchange 44 = .ok (.invokevirtual 237, 3) := by decide +kernel
theorem dX7_exchange_47 : decode cX7_exchange 47 = .ok (.ifnonnull 31, 3) := by decide +kernel
theorem dX7_exchange_50 : decode cX7_exchange 50 = .ok (.aload_n 2, 1) := by decide +kernel
theorem dX7_exchange_51 : decode cX7_exchange 51 = .ok (.iload 5, 2) := by decide +kernel
theorem dX7_exchange_53 : decode cX7_exchange 53 = .ok (.invokevirtual 339, 3) := by decide +kernel
theorem dX7_exchange_56 : decode cX7_exchange 56 = .ok (.ifCond .eq 22, 3) := by decide +kernel
theorem dX7_exchange_59 : decode cX7_exchange 59 = .ok (.aload_n 2, 1) := by decide +kernel
theorem dX7_exchange_60 : decode cX7_exchange 60 = .ok (.dup, 1) := by decide +kernel
theorem dX7_exchange_61 : decode cX7_exchange 61 = .ok (.getfield 147, 3) := by decide +kernel
theorem dX7_exchange_64 : decode cX7_exchange 64 = .ok (.iload 5, 2) := by decide +kernel
theorem dX7_exchange_66 : decode cX7_exchange 66 = .ok (.iadd, 1) := by decide +kernel
theorem dX7_exchange_67 : decode cX7_exchange 67 = .ok (.putfield 147, 3) := by decide +kernel
theorem dX7_exchange_70 : decode cX7_exchange 70 = .ok (.aload_n 0, 1) := by decide +kernel
theorem dX7_exchange_71 : decode cX7_exchange 71 = .ok (.aload_n 2, 1) := by decide +kernel
theorem dX7_exchange_72 : decode cX7_exchange 72 = .ok (.invokevirtual 268, 3) := by decide +kernel
theorem dX7_exchange_75 : decode cX7_exchange 75 = .ok (.goto 17, 3) := by decide +kernel
theorem dX7_exchange_78 : decode cX7_exchange 78 = .ok (.aload_n 0, 1) := by decide +kernel
theorem dX7_exchange_79 : decode cX7_exchange 79 = .ok (.aload_n 1, 1) := by decide +kernel
theorem dX7_exchange_80 : decode cX7_exchange 80 = .ok (.iload 6, 2) := by decide +kernel
theorem dX7_exchange_82 : decode cX7_exchange 82 = .ok (.iconst 3, 1) := by decide +kernel
theorem dX7_exchange_83 : decode cX7_exchange 83 = .ok (.invokevirtual 212, 3) := by decide +kernel
theorem dX7_exchange_86 : decode cX7_exchange 86 = .ok (.aload_n 1, 1) := by decide +kernel
theorem dX7_exchange_87 : decode cX7_exchange 87 = .ok (.iload 5, 2) := by decide +kernel
theorem dX7_exchange_89 : decode cX7_exchange 89 = .ok (.putfield 309, 3) := by decide +kernel
theorem dX7_exchange_92 : decode cX7_exchange 92 = .ok (.return_, 1) := by decide +kernel
theorem dX7_goOnWith_0 : decode cX7_goOnWith 0 = .ok (.iconst 0, 1) := by decide +kernel
theorem dX7_goOnWith_1 : decode cX7_goOnWith 1 = .ok (.istore_n 2, 1) := by decide +kernel
theorem dX7_goOnWith_2 : decode cX7_goOnWith 2 = .ok (.aload_n 1, 1) := by decide +kernel
theorem dX7_goOnWith_3 : decode cX7_goOnWith 3 = .ok (.ifnull 91, 3) := by decide +kernel
theorem dX7_goOnWith_6 : decode cX7_goOnWith 6 = .ok (.iload_n 2, 1) := by decide +kernel
theorem dX7_goOnWith_7 : decode cX7_goOnWith 7 = .ok (.bipush 24, 2) := by decide +kernel
theorem dX7_goOnWith_9 : decode cX7_goOnWith 9 = .ok (.if_icmp .ge 85, 3) := by decide +kernel
theorem dX7_goOnWith_12 : decode cX7_goOnWith 12 = .ok (.aload_n 0, 1) := by decide +kernel
theorem dX7_goOnWith_13 : decode cX7_goOnWith 13 = .ok (.aload_n 1, 1) := by decide +kernel
theorem dX7_goOnWith_14 : decode cX7_goOnWith 14 = .ok (.iconst 1, 1) := by decide +kernel
theorem dX7_goOnWith_15 : decode cX7_goOnWith 15 = .ok (.invokevirtual 336, 3) := by decide +kernel
theorem dX7_goOnWith_18 : decode cX7_goOnWith 18 = .ok (.invokevirtual 237, 3) := by decide +kernel
theorem dX7_goOnWith_21 : decode cX7_goOnWith 21 = .ok (.astore_n 3, 1) := by decide +kernel
theorem dX7_goOnWith_22 : decode cX7_goOnWith 22 = .ok (.aload_n 3, 1) := by decide +kernel
theorem dX7_goOnWith_23 : decode cX7_goOnWith 23 = .ok (.ifnull 14, 3) := by decide +kernel
theorem dX7_goOnWith_26 : decode cX7_goOnWith 26 = .ok (.aload_n 1, 1) := by decide +kernel
theorem dX7_goOnWith_27 : decode cX7_goOnWith 27 = .ok (.aload_n 3, 1) := by decide +kernel
theorem dX7_goOnWith_28 : decode cX7_goOnWith 28 = .ok (.getfield 309, 3) := by decide +kernel
theorem dX7_goOnWith_31 : decode cX7_goOnWith 31 = .ok (.invokevirtual 339, 3) := by decide +kernel
theorem dX7_goOnWith_34 : decode cX7_goOnWith 34 = .ok (.ifCond .ne 13, 3) := by decide +kernel
theorem dX7_goOnWith_37 : decode cX7_goOnWith 37 = .ok (.aload_n 0, 1) := by decide +kernel
theorem dX7_goOnWith_38 : decode cX7_goOnWith 38 = .ok (.aload_n 1, 1) := by decide +kernel
theorem dX7_goOnWith_39 : decode cX7_goOnWith 39 = .ok (.iconst 0, 1) := by decide +kernel
theorem dX7_goOnWith_40 : decode cX7_goOnWith 40 = .ok (.invokevirtual 336, 3) := by decide +kernel
theorem dX7_goOnWith_43 : decode cX7_goOnWith 43 = .ok (.invokevirtual 237, 3) := by decide +kernel
theorem dX7_goOnWith_46 : decode cX7_goOnWith 46 = .ok (.astore_n 3, 1) := by decide +kernel
theorem dX7_goOnWith_47 : decode cX7_goOnWith 47 = .ok (.aload_n 3, 1) := by decide +kernel
theorem dX7_goOnWith_48 : decode cX7_goOnWith 48 = .ok (.ifnull 14, 3) := by decide +kernel
theorem dX7_goOnWith_51 : decode cX7_goOnWith 51 = .ok (.aload_n 1, 1) := by decide +kernel
theorem dX7_goOnWith_52 : decode cX7_goOnWith 52 = .ok (.aload_n 3, 1) := by decide +kernel
theorem dX7_goOnWith_53 : decode cX7_goOnWith 53 = .ok (.getfield 309, 3) := by decide +kernel
theorem dX7_goOnWith_56 : decode cX7_goOnWith 56 = .ok (.invokevirtual 339, 3) := by decide +kernel
theorem dX7_goOnWith_59 : decode cX7_goOnWith 59 = .ok (.ifCond .ne 4, 3) := by decide +kernel
theorem dX7_goOnWith_62 : decode cX7_goOnWith 62 = .ok (.return_, 1) := by decide +kernel
theorem dX7_goOnWith_63 : decode cX7_goOnWith 63 = .ok (.aload_n 3, 1) := by decide +kernel
theorem dX7_goOnWith_64 : decode cX7_goOnWith 64 = .ok (.iconst (-1), 1) := by decide +kernel
theorem dX7_goOnWith_65 : decode cX7_goOnWith 65 = .ok (.putfield 240, 3) := by decide +kernel
theorem dX7_goOnWith_68 : decode cX7_goOnWith 68 = .ok (.aload_n 1, 1) := by decide +kernel
theorem dX7_goOnWith_69 : decode cX7_goOnWith 69 = .ok (.dup, 1) := by decide +kernel
theorem dX7_goOnWith_70 : decode cX7_goOnWith 70 = .ok (.getfield 147, 3) := by decide +kernel
theorem dX7_goOnWith_73 : decode cX7_goOnWith 73 = .ok (.aload_n 3, 1) := by decide +kernel
theorem dX7_goOnWith_74 : decode cX7_goOnWith 74 = .ok (.getfield 309, 3) := by decide +kernel
theorem dX7_goOnWith_77 : decode cX7_goOnWith 77 = .ok (.iadd, 1) := by decide +kernel
theorem dX7_goOnWith_78 : decode cX7_goOnWith 78 = .ok (.putfield 147, 3) := by decide +kernel
theorem dX7_goOnWith_81 : decode cX7_goOnWith 81 = .ok (.aload_n 0, 1) := by decide +kernel
theorem dX7_goOnWith_82 : decode cX7_goOnWith 82 = .ok (.aload_n 3, 1) := by decide +kernel
theorem dX7_goOnWith_83 : decode cX7_goOnWith 83 = .ok (.iconst 0, 1) := by decide +kernel
theorem dX7_goOnWith_84 : decode cX7_goOnWith 84 = .ok (.iconst 0, 1) := by decide +kernel
theorem dX7_goOnWith_85 : decode cX7_goOnWith 85 = .ok (.invokevirtual 88, 3) := by decide +kernel
theorem dX7_goOnWith_88 : decode cX7_goOnWith 88 = .ok (.iinc 2 1, 3) := by decide +kernel
theorem dX7_goOnWith_91 : decode cX7_goOnWith 91 = .ok (.goto (-89), 3) := by decide +kernel
theorem dX7_goOnWith_94 : decode cX7_goOnWith 94 = .ok (.return_, 1) := by decide +kernel
theorem dX8_init_0 : decode cX8_init 0 = .ok (.aload_n 0, 1) := by decide +kernel
theorem dX8_init_1 : decode cX8_init 1 = .ok (.invokespecial 3, 3) := by decide +kernel
theorem dX8_init_4 : decode cX8_init 4 = .ok (.new 9, 3) := by decide +kernel
theorem dX8_init_7 : decode cX8_init 7 = .ok (.dup, 1) := by decide +kernel
theorem dX8_init_8 : decode cX8_init 8 = .ok (.invokespecial 11, 3) := by decide +kernel
theorem dX8_init_11 : decode cX8_init 11 = .ok (.astore_n 1, 1) := by decide +kernel
theorem dX8_init_12 : decode cX8_init 12 = .ok (.new 9, 3) := by decide +kernel
theorem dX8_init_15 : decode cX8_init 15 = .ok (.dup, 1) := by decide +kernel
theorem dX8_init_16 : decode cX8_init 16 = .ok (.invokespecial 11, 3) := by decide +kernel
theorem dX8_init_19 : decode cX8_init 19 = .ok (.astore_n 2, 1) := by decide +kernel
theorem dX8_init_20 : decode cX8_init 20 = .ok (.aload_n 0, 1) := by decide +kernel
theorem dX8_init_21 : decode cX8_init 21 = .ok (.aload_n 1, 1) := by decide +kernel
theorem dX8_init_22 : decode cX8_init 22 = .ok (.putfield 12, 3) := by decide +kernel
theorem dX8_init_25 : decode cX8_init 25 = .ok (.aload_n 0, 1) := by decide +kernel
theorem dX8_init_26 : decode cX8_init 26 = .ok (.aload_n 2, 1) := by decide +kernel
theorem dX8_init_27 : decode cX8_init 27 = .ok (.putfield 16, 3) := by decide +kernel
theorem dX8_init_30 : decode cX8_init 30 = .ok (.aload_n 0, 1) := by decide +kernel
theorem dX8_init_31 : decode cX8_init 31 = .ok (.new 19, 3) := by decide +kernel
theorem dX8_init_34 : decode cX8_init 34 = .ok (.dup, 1) := by decide +kernel
theorem dX8_init_35 : decode cX8_init 35 = .ok (.aload_n 1, 1) := by decide +kernel
theorem dX8_init_36 : decode cX8_init 36 = .ok (.aload_n 2, 1) := by decide +kernel
theorem dX8_init_37 : decode cX8_init 37 = .ok (.invokespecial 21, 3) := by decide +kernel
theorem dX8_init_40 : decode cX8_init 40 = .ok (.putfield 24, 3) := by decide +kernel
theorem dX8_init_43 : decode cX8_init 43 = .ok (.aload_n 0, 1) := by decide +kernel
theorem dX8_init_44 : decode cX8_init 44 = .ok (.new 19, 3) := by decide +kernel
theorem dX8_init_47 : decode cX8_init 47 = .ok (.dup, 1) := by decide +kernel
theorem dX8_init_48 : decode cX8_init 48 = .ok (.aload_n 1, 1) := by decide +kernel
theorem dX8_init_49 : decode cX8_init 49 = .ok (.new 9, 3) := by decide +kernel
theorem dX8_init_52 : decode cX8_init 52 = .ok (.dup, 1) := by decide +kernel
theorem dX8_init_53 : decode cX8_init 53 = .ok (.invokespecial 11, 3) := by decide +kernel
theorem dX8_init_56 : decode cX8_init 56 = .ok (.invokespecial 21, 3) := by decide +kernel
theorem dX8_init_59 : decode cX8_init 59 = .ok (.putfield 28, 3) := by decide +kernel
theorem dX8_init_62 : decode cX8_init 62 = .ok (.return_, 1) := by decide +kernel
theorem dX8_addResource_0 : decode cX8_addResource 0 = .ok (.iload_n 1, 1) := by decide +kernel
theorem dX8_addResource_1 : decode cX8_addResource 1 = .ok (.iconst 0, 1) := by decide +kernel
theorem dX8_addResource_2 : decode cX8_addResource 2 = .ok (.iconst 2, 1) := by decide +kernel
theorem dX8_addResource_3 : decode cX8_addResource 3 = .ok (.invokestatic 31, 3) := by decide +kernel
theorem dX8_addResource_6 : decode cX8_addResource 6 = .ok (.ifCond .eq 13, 3) := by decide +kernel
theorem dX8_addResource_9 : decode cX8_addResource 9 = .ok (.iload_n 2, 1) := by decide +kernel
theorem dX8_addResource_10 : decode cX8_addResource 10 = .ok (.iconst 1, 1) := by decide +kernel
theorem dX8_addResource_11 : decode cX8_addResource 11 = .ok (.bipush 9, 2) := by decide +kernel
theorem dX8_addResource_13 : decode cX8_addResource 13 = .ok (.invokestatic 31, 3) := by decide +kernel
theorem dX8_addResource_16 : decode cX8_addResource 16 = .ok (.ifCond .ne 13, 3) := by decide +kernel
theorem dX8_addResource_19 : decode cX8_addResource 19 = .ok (.new 35, 3) := by decide +kernel
theorem dX8_addResource_22 : decode cX8_addResource 22 = .ok (.dup, 1) := by decide +kernel
theorem dX8_addResource_23 : decode cX8_addResource 23 = .ok (.ldc 37, 2) := by decide +kernel
theorem dX8_addResource_25 : decode cX8_addResource 25 = .ok (.invokespecial 39, 3) := by decide +kernel
theorem dX8_addResource_28 : decode cX8_addResource 28 = .ok (.athrow, 1) := by decide +kernel
theorem dX8_addResource_29 : decode cX8_addResource 29 = .ok (.aload_n 0, 1) := by decide +kernel
theorem dX8_addResource_30 : decode cX8_addResource 30 = .ok (.getfield 24, 3) := by decide +kernel
theorem dX8_addResource_33 : decode cX8_addResource 33 = .ok (.getfield 42, 3) := by decide +kernel
theorem dX8_addResource_36 : decode cX8_addResource 36 = .ok (.invokevirtual 45, 3) := by decide +kernel
theorem dX8_addResource_39 : decode cX8_addResource 39 = .ok (.istore_n 3, 1) := by decide +kernel
theorem dX8_addResource_40 : decode cX8_addResource 40 = .ok (.iload_n 3, 1) := by decide +kernel
theorem dX8_addResource_41 : decode cX8_addResource 41 = .ok (.bipush 6, 2) := by decide +kernel
theorem dX8_addResource_43 : decode cX8_addResource 43 = .ok (.if_icmp .lt 13, 3) := by decide +kernel
theorem dX8_addResource_46 : decode cX8_addResource 46 = .ok (.new 49, 3) := by decide +kernel
theorem dX8_addResource_49 : decode cX8_addResource 49 = .ok (.dup, 1) := by decide +kernel
theorem dX8_addResource_50 : decode cX8_addResource 50 = .ok (.ldc 51, 2) := by decide +kernel
theorem dX8_addResource_52 : decode cX8_addResource 52 = .ok (.invokespecial 53, 3) := by decide +kernel
theorem dX8_addResource_55 : decode cX8_addResource 55 = .ok (.athrow, 1) := by decide +kernel
theorem dX8_addResource_56 : decode cX8_addResource 56 = .ok (.aload_n 0, 1) := by decide +kernel
theorem dX8_addResource_57 : decode cX8_addResource 57 = .ok (.getfield 24, 3) := by decide +kernel
theorem dX8_addResource_60 : decode cX8_addResource 60 = .ok (.getfield 42, 3) := by decide +kernel
theorem dX8_addResource_63 : decode cX8_addResource 63 = .ok (.new 54, 3) := by decide +kernel
theorem dX8_addResource_66 : decode cX8_addResource 66 = .ok (.dup, 1) := by decide +kernel
theorem dX8_addResource_67 : decode cX8_addResource 67 = .ok (.iload_n 3, 1) := by decide +kernel
theorem dX8_addResource_68 : decode cX8_addResource 68 = .ok (.iload_n 1, 1) := by decide +kernel
theorem dX8_addResource_69 : decode cX8_addResource 69 = .ok (.iload_n 2, 1) := by decide +kernel
theorem dX8_addResource_70 : decode cX8_addResource 70 = .ok (.invokespecial 56, 3) := by decide +kernel
theorem dX8_addResource_73 : decode cX8_addResource 73 = .ok (.invokevirtual 59, 3) := by decide +kernel
theorem dX8_addResource_76 : decode cX8_addResource 76 = .ok (.pop, 1) := by decide +kernel
theorem dX8_addResource_77 : decode cX8_addResource 77 = .ok (.aload_n 0, 1) := by decide +kernel
theorem dX8_addResource_78 : decode cX8_addResource 78 = .ok (.getfield 28, 3) := by decide +kernel
theorem dX8_addResource_81 : decode cX8_addResource 81 = .ok (.getfield 42, 3) := by decide +kernel
theorem dX8_addResource_84 : decode cX8_addResource 84 = .ok (.new 54, 3) := by decide +kernel
theorem dX8_addResource_87 : decode cX8_addResource 87 = .ok (.dup, 1) := by decide +kernel
theorem dX8_addResource_88 : decode cX8_addResource 88 = .ok (.iload_n 3, 1) := by decide +kernel
theorem dX8_addResource_89 : decode cX8_addResource 89 = .ok (.iload_n 1, 1) := by decide +kernel
theorem dX8_addResource_90 : decode cX8_addResource 90 = .ok (.iload_n 2, 1) := by decide +kernel
theorem dX8_addResource_91 : decode cX8_addResource 91 = .ok (.invokespecial 56, 3) := by decide +kernel
theorem dX8_addResource_94 : decode cX8_addResource 94 = .ok (.invokevirtual 59, 3) := by decide +kernel
theorem dX8_addResource_97 : decode cX8_addResource 97 = .ok (.pop, 1) := by decide +kernel
theorem dX8_addResource_98 : decode cX8_addResource 98 = .ok (.iload_n 3, 1) := by decide +kernel
theorem dX8_addResource_99 : decode cX8_addResource 99 = .ok (.ireturn, 1) := by decide +kernel
theorem dX8_addStore_0 : decode cX8_addStore 0 = .ok (.iload_n 1, 1) := by decide +kernel
theorem dX8_addStore_1 : decode cX8_addStore 1 = .ok (.iconst 1, 1) := by decide +kernel
theorem dX8_addStore_2 : decode cX8_addStore 2 = .ok (.bipush 99, 2) := by decide +kernel
theorem dX8_addStore_4 : decode cX8_addStore 4 = .ok (.invokestatic 31, 3) := by decide +kernel
theorem dX8_addStore_7 : decode cX8_addStore 7 = .ok (.ifCond .eq 12, 3) := by decide +kernel
theorem dX8_addStore_10 : decode cX8_addStore 10 = .ok (.iload_n 2, 1) := by decide +kernel
theorem dX8_addStore_11 : decode cX8_addStore 11 = .ok (.iconst 0, 1) := by decide +kernel
theorem dX8_addStore_12 : decode cX8_addStore 12 = .ok (.iload_n 1, 1) := by decide +kernel
theorem dX8_addStore_13 : decode cX8_addStore 13 = .ok (.invokestatic 31, 3) := by decide +kernel
theorem dX8_addStore_16 : decode cX8_addStore 16 = .ok (.ifCond .ne 13, 3) := by decide +kernel
theorem dX8_addStore_19 : decode cX8_addStore 19 = .ok (.new 35, 3) := by decide +kernel
theorem dX8_addStore_22 : decode cX8_addStore 22 = .ok (.dup, 1) := by decide +kernel
theorem dX8_addStore_23 : decode cX8_addStore 23 = .ok (.ldc 63, 2) := by decide +kernel
theorem dX8_addStore_25 : decode cX8_addStore 25 = .ok (.invokespecial 39, 3) := by decide +kernel
theorem dX8_addStore_28 : decode cX8_addStore 28 = .ok (.athrow, 1) := by decide +kernel
theorem dX8_addStore_29 : decode cX8_addStore 29 = .ok (.aload_n 0, 1) := by decide +kernel
theorem dX8_addStore_30 : decode cX8_addStore 30 = .ok (.getfield 24, 3) := by decide +kernel
theorem dX8_addStore_33 : decode cX8_addStore 33 = .ok (.getfield 65, 3) := by decide +kernel
theorem dX8_addStore_36 : decode cX8_addStore 36 = .ok (.invokevirtual 45, 3) := by decide +kernel
theorem dX8_addStore_39 : decode cX8_addStore 39 = .ok (.istore_n 3, 1) := by decide +kernel
theorem dX8_addStore_40 : decode cX8_addStore 40 = .ok (.iload_n 3, 1) := by decide +kernel
theorem dX8_addStore_41 : decode cX8_addStore 41 = .ok (.iconst 4, 1) := by decide +kernel
theorem dX8_addStore_42 : decode cX8_addStore 42 = .ok (.if_icmp .lt 13, 3) := by decide +kernel
theorem dX8_addStore_45 : decode cX8_addStore 45 = .ok (.new 49, 3) := by decide +kernel
theorem dX8_addStore_48 : decode cX8_addStore 48 = .ok (.dup, 1) := by decide +kernel
theorem dX8_addStore_49 : decode cX8_addStore 49 = .ok (.ldc 68, 2) := by decide +kernel
theorem dX8_addStore_51 : decode cX8_addStore 51 = .ok (.invokespecial 53, 3) := by decide +kernel
theorem dX8_addStore_54 : decode cX8_addStore 54 = .ok (.athrow, 1) := by decide +kernel
theorem dX8_addStore_55 : decode cX8_addStore 55 = .ok (.aload_n 0, 1) := by decide +kernel
theorem dX8_addStore_56 : decode cX8_addStore 56 = .ok (.getfield 24, 3) := by decide +kernel
theorem dX8_addStore_59 : decode cX8_addStore 59 = .ok (.getfield 65, 3) := by decide +kernel
theorem dX8_addStore_62 : decode cX8_addStore 62 = .ok (.new 70, 3) := by decide +kernel
theorem dX8_addStore_65 : decode cX8_addStore 65 = .ok (.dup, 1) := by decide +kernel
theorem dX8_addStore_66 : decode cX8_addStore 66 = .ok (.iload_n 3, 1) := by decide +kernel
theorem dX8_addStore_67 : decode cX8_addStore 67 = .ok (.iload_n 1, 1) := by decide +kernel
theorem dX8_addStore_68 : decode cX8_addStore 68 = .ok (.iload_n 2, 1) := by decide +kernel
theorem dX8_addStore_69 : decode cX8_addStore 69 = .ok (.invokespecial 72, 3) := by decide +kernel
theorem dX8_addStore_72 : decode cX8_addStore 72 = .ok (.invokevirtual 59, 3) := by decide +kernel
theorem dX8_addStore_75 : decode cX8_addStore 75 = .ok (.pop, 1) := by decide +kernel
theorem dX8_addStore_76 : decode cX8_addStore 76 = .ok (.aload_n 0, 1) := by decide +kernel
theorem dX8_addStore_77 : decode cX8_addStore 77 = .ok (.getfield 28, 3) := by decide +kernel
theorem dX8_addStore_80 : decode cX8_addStore 80 = .ok (.getfield 65, 3) := by decide +kernel
theorem dX8_addStore_83 : decode cX8_addStore 83 = .ok (.new 70, 3) := by decide +kernel
theorem dX8_addStore_86 : decode cX8_addStore 86 = .ok (.dup, 1) := by decide +kernel
theorem dX8_addStore_87 : decode cX8_addStore 87 = .ok (.iload_n 3, 1) := by decide +kernel
theorem dX8_addStore_88 : decode cX8_addStore 88 = .ok (.iload_n 1, 1) := by decide +kernel
theorem dX8_addStore_89 : decode cX8_addStore 89 = .ok (.iload_n 2, 1) := by decide +kernel
theorem dX8_addStore_90 : decode cX8_addStore 90 = .ok (.invokespecial 72, 3) := by decide +kernel
theorem dX8_addStore_93 : decode cX8_addStore 93 = .ok (.invokevirtual 59, 3) := by decide +kernel
theorem dX8_addStore_96 : decode cX8_addStore 96 = .ok (.pop, 1) := by decide +kernel
theorem dX8_addStore_97 : decode cX8_addStore 97 = .ok (.iload_n 3, 1) := by decide +kernel
theorem dX8_addStore_98 : decode cX8_addStore 98 = .ok (.ireturn, 1) := by decide +kernel
theorem dX8_addTally_0 : decode cX8_addTally 0 = .ok (.iload_n 1, 1) := by decide +kernel
theorem dX8_addTally_1 : decode cX8_addTally 1 = .ok (.iconst 1, 1) := by decide +kernel
theorem dX8_addTally_2 : decode cX8_addTally 2 = .ok (.bipush 20, 2) := by decide +kernel
theorem dX8_addTally_4 : decode cX8_addTally 4 = .ok (.invokestatic 31, 3) := by decide +kernel
theorem dX8_addTally_7 : decode cX8_addTally 7 = .ok (.ifCond .ne 13, 3) := by decide +kernel
theorem dX8_addTally_10 : decode cX8_addTally 10 = .ok (.new 35, 3) := by decide +kernel
theorem dX8_addTally_13 : decode cX8_addTally 13 = .ok (.dup, 1) := by decide +kernel
theorem dX8_addTally_14 : decode cX8_addTally 14 = .ok (.ldc 73, 2) := by decide +kernel
theorem dX8_addTally_16 : decode cX8_addTally 16 = .ok (.invokespecial 39, 3) := by decide +kernel
theorem dX8_addTally_19 : decode cX8_addTally 19 = .ok (.athrow, 1) := by decide +kernel
theorem dX8_addTally_20 : decode cX8_addTally 20 = .ok (.aload_n 0, 1) := by decide +kernel
theorem dX8_addTally_21 : decode cX8_addTally 21 = .ok (.getfield 16, 3) := by decide +kernel
theorem dX8_addTally_24 : decode cX8_addTally 24 = .ok (.invokevirtual 45, 3) := by decide +kernel
theorem dX8_addTally_27 : decode cX8_addTally 27 = .ok (.iconst 4, 1) := by decide +kernel
theorem dX8_addTally_28 : decode cX8_addTally 28 = .ok (.if_icmp .lt 13, 3) := by decide +kernel
theorem dX8_addTally_31 : decode cX8_addTally 31 = .ok (.new 49, 3) := by decide +kernel
theorem dX8_addTally_34 : decode cX8_addTally 34 = .ok (.dup, 1) := by decide +kernel
theorem dX8_addTally_35 : decode cX8_addTally 35 = .ok (.ldc 75, 2) := by decide +kernel
theorem dX8_addTally_37 : decode cX8_addTally 37 = .ok (.invokespecial 53, 3) := by decide +kernel
theorem dX8_addTally_40 : decode cX8_addTally 40 = .ok (.athrow, 1) := by decide +kernel
theorem dX8_addTally_41 : decode cX8_addTally 41 = .ok (.aload_n 0, 1) := by decide +kernel
theorem dX8_addTally_42 : decode cX8_addTally 42 = .ok (.getfield 16, 3) := by decide +kernel
theorem dX8_addTally_45 : decode cX8_addTally 45 = .ok (.new 77, 3) := by decide +kernel
theorem dX8_addTally_48 : decode cX8_addTally 48 = .ok (.dup, 1) := by decide +kernel
theorem dX8_addTally_49 : decode cX8_addTally 49 = .ok (.iload_n 1, 1) := by decide +kernel
theorem dX8_addTally_50 : decode cX8_addTally 50 = .ok (.invokespecial 79, 3) := by decide +kernel
theorem dX8_addTally_53 : decode cX8_addTally 53 = .ok (.invokevirtual 59, 3) := by decide +kernel
theorem dX8_addTally_56 : decode cX8_addTally 56 = .ok (.pop, 1) := by decide +kernel
theorem dX8_addTally_57 : decode cX8_addTally 57 = .ok (.aload_n 0, 1) := by decide +kernel
theorem dX8_addTally_58 : decode cX8_addTally 58 = .ok (.getfield 16, 3) := by decide +kernel
theorem dX8_addTally_61 : decode cX8_addTally 61 = .ok (.invokevirtual 45, 3) := by decide +kernel
theorem dX8_addTally_64 : decode cX8_addTally 64 = .ok (.iconst 1, 1) := by decide +kernel
theorem dX8_addTally_65 : decode cX8_addTally 65 = .ok (.isub, 1) := by decide +kernel
theorem dX8_addTally_66 : decode cX8_addTally 66 = .ok (.ireturn, 1) := by decide +kernel
theorem dX8_addScript_0 : decode cX8_addScript 0 = .ok (.aload_n 0, 1) := by decide +kernel
theorem dX8_addScript_1 : decode cX8_addScript 1 = .ok (.getfield 12, 3) := by decide +kernel
theorem dX8_addScript_4 : decode cX8_addScript 4 = .ok (.invokevirtual 45, 3) := by decide +kernel
theorem dX8_addScript_7 : decode cX8_addScript 7 = .ok (.bipush 8, 2) := by decide +kernel
theorem dX8_addScript_9 : decode cX8_addScript 9 = .ok (.if_icmp .lt 13, 3) := by decide +kernel
theorem dX8_addScript_12 : decode cX8_addScript 12 = .ok (.new 49, 3) := by decide +kernel
theorem dX8_addScript_15 : decode cX8_addScript 15 = .ok (.dup, 1) := by decide +kernel
theorem dX8_addScript_16 : decode cX8_addScript 16 = .ok (.ldc 82, 2) := by decide +kernel
theorem dX8_addScript_18 : decode cX8_addScript 18 = .ok (.invokespecial 53, 3) := by decide +kernel
theorem dX8_addScript_21 : decode cX8_addScript 21 = .ok (.athrow, 1) := by decide +kernel
theorem dX8_addScript_22 : decode cX8_addScript 22 = .ok (.aload_n 0, 1) := by decide +kernel
theorem dX8_addScript_23 : decode cX8_addScript 23 = .ok (.getfield 12, 3) := by decide +kernel
theorem dX8_addScript_26 : decode cX8_addScript 26 = .ok (.new 84, 3) := by decide +kernel
theorem dX8_addScript_29 : decode cX8_addScript 29 = .ok (.dup, 1) := by decide +kernel
theorem dX8_addScript_30 : decode cX8_addScript 30 = .ok (.invokespecial 86, 3) := by decide +kernel
theorem dX8_addScript_33 : decode cX8_addScript 33 = .ok (.invokevirtual 59, 3) := by decide +kernel
theorem dX8_addScript_36 : decode cX8_addScript 36 = .ok (.pop, 1) := by decide +kernel
theorem dX8_addScript_37 : decode cX8_addScript 37 = .ok (.aload_n 0, 1) := by decide +kernel
theorem dX8_addScript_38 : decode cX8_addScript 38 = .ok (.getfield 12, 3) := by decide +kernel
theorem dX8_addScript_41 : decode cX8_addScript 41 = .ok (.invokevirtual 45, 3) := by decide +kernel
theorem dX8_addScript_44 : decode cX8_addScript 44 = .ok (.iconst 1, 1) := by decide +kernel
theorem dX8_addScript_45 : decode cX8_addScript 45 = .ok (.isub, 1) := by decide +kernel
theorem dX8_addScript_46 : decode cX8_addScript 46 = .ok (.ireturn, 1) := by decide +kernel
theorem dX8_add_0 : decode cX8_add 0 = .ok (.aload_n 0, 1) := by decide +kernel
theorem dX8_add_1 : decode cX8_add 1 = .ok (.iload_n 1, 1) := by decide +kernel
theorem dX8_add_2 : decode cX8_add 2 = .ok (.invokevirtual 87, 3) := by decide +kernel
theorem dX8_add_5 : decode cX8_add 5 = .ok (.astore 5, 2) := by decide +kernel
theorem dX8_add_7 : decode cX8_add 7 = .ok (.aload_n 0, 1) := by decide +kernel
theorem dX8_add_8 : decode cX8_add 8 = .ok (.iload_n 2, 1) := by decide +kernel
theorem dX8_add_9 : decode cX8_add 9 = .ok (.iload_n 3, 1) := by decide +kernel
theorem dX8_add_10 : decode cX8_add 10 = .ok (.iload 4, 2) := by decide +kernel
theorem dX8_add_12 : decode cX8_add 12 = .ok (.invokevirtual 91, 3) := by decide +kernel
theorem dX8_add_15 : decode cX8_add 15 = .ok (.ifCond .ne 13, 3) := by decide +kernel
theorem dX8_add_18 : decode cX8_add 18 = .ok (.new 35, 3) := by decide +kernel
theorem dX8_add_21 : decode cX8_add 21 = .ok (.dup, 1) := by decide +kernel
theorem dX8_add_22 : decode cX8_add 22 = .ok (.ldc 94, 2) := by decide +kernel
theorem dX8_add_24 : decode cX8_add 24 = .ok (.invokespecial 39, 3) := by decide +kernel
theorem dX8_add_27 : decode cX8_add 27 = .ok (.athrow, 1) := by decide +kernel
theorem dX8_add_28 : decode cX8_add 28 = .ok (.aload 5, 2) := by decide +kernel
theorem dX8_add_30 : decode cX8_add 30 = .ok (.getfield 96, 3) := by decide +kernel
theorem dX8_add_33 : decode cX8_add 33 = .ok (.invokevirtual 45, 3) := by decide +kernel
theorem dX8_add_36 : decode cX8_add 36 = .ok (.bipush 16, 2) := by decide +kernel
theorem dX8_add_38 : decode cX8_add 38 = .ok (.if_icmp .lt 13, 3) := by decide +kernel
theorem dX8_add_41 : decode cX8_add 41 = .ok (.new 49, 3) := by decide +kernel
theorem dX8_add_44 : decode cX8_add 44 = .ok (.dup, 1) := by decide +kernel
theorem dX8_add_45 : decode cX8_add 45 = .ok (.ldc 99, 2) := by decide +kernel
theorem dX8_add_47 : decode cX8_add 47 = .ok (.invokespecial 53, 3) := by decide +kernel
theorem dX8_add_50 : decode cX8_add 50 = .ok (.athrow, 1) := by decide +kernel
theorem dX8_add_51 : decode cX8_add 51 = .ok (.aload_n 0, 1) := by decide +kernel
theorem dX8_add_52 : decode cX8_add 52 = .ok (.getfield 24, 3) := by decide +kernel
theorem dX8_add_55 : decode cX8_add 55 = .ok (.aload 5, 2) := by decide +kernel
theorem dX8_add_57 : decode cX8_add 57 = .ok (.invokevirtual 101, 3) := by decide +kernel
theorem dX8_add_60 : decode cX8_add 60 = .ok (.ifCond .eq 13, 3) := by decide +kernel
theorem dX8_add_63 : decode cX8_add 63 = .ok (.new 49, 3) := by decide +kernel
theorem dX8_add_66 : decode cX8_add 66 = .ok (.dup, 1) := by decide +kernel
theorem dX8_add_67 : decode cX8_add 67 = .ok (.ldc 105, 2) := by decide +kernel
theorem dX8_add_69 : decode cX8_add 69 = .ok (.invokespecial 53, 3) := by decide +kernel
theorem dX8_add_72 : decode cX8_add 72 = .ok (.athrow, 1) := by decide +kernel
theorem dX8_add_73 : decode cX8_add 73 = .ok (.aload 5, 2) := by decide +kernel
theorem dX8_add_75 : decode cX8_add 75 = .ok (.getfield 96, 3) := by decide +kernel
theorem dX8_add_78 : decode cX8_add 78 = .ok (.invokevirtual 45, 3) := by decide +kernel
theorem dX8_add_81 : decode cX8_add 81 = .ok (.istore 6, 2) := by decide +kernel
theorem dX8_add_83 : decode cX8_add 83 = .ok (.aload 5, 2) := by decide +kernel
theorem dX8_add_85 : decode cX8_add 85 = .ok (.getfield 96, 3) := by decide +kernel
theorem dX8_add_88 : decode cX8_add 88 = .ok (.new 107, 3) := by decide +kernel
theorem dX8_add_91 : decode cX8_add 91 = .ok (.dup, 1) := by decide +kernel
theorem dX8_add_92 : decode cX8_add 92 = .ok (.iload 6, 2) := by decide +kernel
theorem dX8_add_94 : decode cX8_add 94 = .ok (.iload_n 2, 1) := by decide +kernel
theorem dX8_add_95 : decode cX8_add 95 = .ok (.iload_n 3, 1) := by decide +kernel
theorem dX8_add_96 : decode cX8_add 96 = .ok (.iload 4, 2) := by decide +kernel
theorem dX8_add_98 : decode cX8_add 98 = .ok (.invokespecial 109, 3) := by decide +kernel
theorem dX8_add_101 : decode cX8_add 101 = .ok (.invokevirtual 59, 3) := by decide +kernel
theorem dX8_add_104 : decode cX8_add 104 = .ok (.pop, 1) := by decide +kernel
theorem dX8_add_105 : decode cX8_add 105 = .ok (.iload 6, 2) := by decide +kernel
theorem dX8_add_107 : decode cX8_add 107 = .ok (.ireturn, 1) := by decide +kernel
theorem dX8_setHandler_0 : decode cX8_setHandler 0 = .ok (.aload_n 0, 1) := by decide +kernel
theorem dX8_setHandler_1 : decode cX8_setHandler 1 = .ok (.iload_n 1, 1) := by decide +kernel
theorem dX8_setHandler_2 : decode cX8_setHandler 2 = .ok (.invokevirtual 87, 3) := by decide +kernel
theorem dX8_setHandler_5 : decode cX8_setHandler 5 = .ok (.astore_n 3, 1) := by decide +kernel
theorem dX8_setHandler_6 : decode cX8_setHandler 6 = .ok (.iload_n 2, 1) := by decide +kernel
theorem dX8_setHandler_7 : decode cX8_setHandler 7 = .ok (.iconst (-1), 1) := by decide +kernel
theorem dX8_setHandler_8 : decode cX8_setHandler 8 = .ok (.bipush 15, 2) := by decide +kernel
theorem dX8_setHandler_10 : decode cX8_setHandler 10 = .ok (.invokestatic 31, 3) := by decide +kernel
theorem dX8_setHandler_13 : decode cX8_setHandler 13 = .ok (.ifCond .ne 13, 3) := by decide +kernel
theorem dX8_setHandler_16 : decode cX8_setHandler 16 = .ok (.new 35, 3) := by decide +kernel
theorem dX8_setHandler_19 : decode cX8_setHandler 19 = .ok (.dup, 1) := by decide +kernel
theorem dX8_setHandler_20 : decode cX8_setHandler 20 = .ok (.ldc 112, 2) := by decide +kernel
theorem dX8_setHandler_22 : decode cX8_setHandler 22 = .ok (.invokespecial 39, 3) := by decide +kernel
theorem dX8_setHandler_25 : decode cX8_setHandler 25 = .ok (.athrow, 1) := by decide +kernel
theorem dX8_setHandler_26 : decode cX8_setHandler 26 = .ok (.aload_n 3, 1) := by decide +kernel
theorem dX8_setHandler_27 : decode cX8_setHandler 27 = .ok (.getfield 114, 3) := by decide +kernel
theorem dX8_setHandler_30 : decode cX8_setHandler 30 = .ok (.istore 4, 2) := by decide +kernel
theorem dX8_setHandler_32 : decode cX8_setHandler 32 = .ok (.aload_n 3, 1) := by decide +kernel
theorem dX8_setHandler_33 : decode cX8_setHandler 33 = .ok (.iload_n 2, 1) := by decide +kernel
theorem dX8_setHandler_34 : decode cX8_setHandler 34 = .ok (.putfield 114, 3) := by decide +kernel
theorem dX8_setHandler_37 : decode cX8_setHandler 37 = .ok (.iload 4, 2) := by decide +kernel
theorem dX8_setHandler_39 : decode cX8_setHandler 39 = .ok (.ireturn, 1) := by decide +kernel
theorem dX8_setLuck_0 : decode cX8_setLuck 0 = .ok (.iload_n 1, 1) := by decide +kernel
theorem dX8_setLuck_1 : decode cX8_setLuck 1 = .ok (.iconst 0, 1) := by decide +kernel
theorem dX8_setLuck_2 : decode cX8_setLuck 2 = .ok (.sipush 9999, 3) := by decide +kernel
theorem dX8_setLuck_5 : decode cX8_setLuck 5 = .ok (.invokestatic 31, 3) := by decide +kernel
theorem dX8_setLuck_8 : decode cX8_setLuck 8 = .ok (.ifCond .ne 13, 3) := by decide +kernel
theorem dX8_setLuck_11 : decode cX8_setLuck 11 = .ok (.new 35, 3) := by decide +kernel
theorem dX8_setLuck_14 : decode cX8_setLuck 14 = .ok (.dup, 1) := by decide +kernel
theorem dX8_setLuck_15 : decode cX8_setLuck 15 = .ok (.ldc 118, 2) := by decide +kernel
theorem dX8_setLuck_17 : decode cX8_setLuck 17 = .ok (.invokespecial 39, 3) := by decide +kernel
theorem dX8_setLuck_20 : decode cX8_setLuck 20 = .ok (.athrow, 1) := by decide +kernel
theorem dX8_setLuck_21 : decode cX8_setLuck 21 = .ok (.aload_n 0, 1) := by decide +kernel
theorem dX8_setLuck_22 : decode cX8_setLuck 22 = .ok (.getfield 24, 3) := by decide +kernel
theorem dX8_setLuck_25 : decode cX8_setLuck 25 = .ok (.getfield 120, 3) := by decide +kernel
theorem dX8_setLuck_28 : decode cX8_setLuck 28 = .ok (.istore_n 2, 1) := by decide +kernel
theorem dX8_setLuck_29 : decode cX8_setLuck 29 = .ok (.aload_n 0, 1) := by decide +kernel
theorem dX8_setLuck_30 : decode cX8_setLuck 30 = .ok (.getfield 24, 3) := by decide +kernel
theorem dX8_setLuck_33 : decode cX8_setLuck 33 = .ok (.iload_n 1, 1) := by decide +kernel
theorem dX8_setLuck_34 : decode cX8_setLuck 34 = .ok (.putfield 120, 3) := by decide +kernel
theorem dX8_setLuck_37 : decode cX8_setLuck 37 = .ok (.iload_n 2, 1) := by decide +kernel
theorem dX8_setLuck_38 : decode cX8_setLuck 38 = .ok (.ireturn, 1) := by decide +kernel
theorem dX8_start_0 : decode cX8_start 0 = .ok (.aload_n 0, 1) := by decide +kernel
theorem dX8_start_1 : decode cX8_start 1 = .ok (.iload_n 1, 1) := by decide +kernel
theorem dX8_start_2 : decode cX8_start 2 = .ok (.invokevirtual 87, 3) := by decide +kernel
theorem dX8_start_5 : decode cX8_start 5 = .ok (.astore 4, 2) := by decide +kernel
theorem dX8_start_7 : decode cX8_start 7 = .ok (.iload_n 2, 1) := by decide +kernel
theorem dX8_start_8 : decode cX8_start 8 = .ok (.iconst 0, 1) := by decide +kernel
theorem dX8_start_9 : decode cX8_start 9 = .ok (.bipush 9, 2) := by decide +kernel
theorem dX8_start_11 : decode cX8_start 11 = .ok (.invokestatic 31, 3) := by decide +kernel
theorem dX8_start_14 : decode cX8_start 14 = .ok (.ifCond .eq 14, 3) := by decide +kernel
theorem dX8_start_17 : decode cX8_start 17 = .ok (.iload_n 3, 1) := by decide +kernel
theorem dX8_start_18 : decode cX8_start 18 = .ok (.iconst 0, 1) := by decide +kernel
theorem dX8_start_19 : decode cX8_start 19 = .ok (.sipush 999, 3) := by decide +kernel
theorem dX8_start_22 : decode cX8_start 22 = .ok (.invokestatic 31, 3) := by decide +kernel
theorem dX8_start_25 : decode cX8_start 25 = .ok (.ifCond .ne 13, 3) := by decide +kernel
theorem dX8_start_28 : decode cX8_start 28 = .ok (.new 35, 3) := by decide +kernel
theorem dX8_start_31 : decode cX8_start 31 = .ok (.dup, 1) := by decide +kernel
theorem dX8_start_32 : decode cX8_start 32 = .ok (.ldc 123, 2) := by decide +kernel
