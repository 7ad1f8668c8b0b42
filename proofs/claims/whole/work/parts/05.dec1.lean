theorem dX7_checksum_54 : decode cX7_checksum 54 = .ok (.lmul, 1) := by decide +kernel
theorem dX7_checksum_55 : decode cX7_checksum 55 = .ok (.aload_n 0, 1) := by decide +kernel
theorem dX7_checksum_56 : decode cX7_checksum 56 = .ok (.aload 6, 2) := by decide +kernel
theorem dX7_checksum_58 : decode cX7_checksum 58 = .ok (.invokevirtual 256, 3) := by decide +kernel
theorem dX7_checksum_61 : decode cX7_checksum 61 = .ok (.i2l, 1) := by decide +kernel
theorem dX7_checksum_62 : decode cX7_checksum 62 = .ok (.ladd, 1) := by decide +kernel
theorem dX7_checksum_63 : decode cX7_checksum 63 = .ok (.lstore_n 1, 1) := by decide +kernel
theorem dX7_checksum_64 : decode cX7_checksum 64 = .ok (.iinc 5 1, 3) := by decide +kernel
theorem dX7_checksum_67 : decode cX7_checksum 67 = .ok (.goto (-51), 3) := by decide +kernel
theorem dX7_checksum_70 : decode cX7_checksum 70 = .ok (.aload_n 0, 1) := by decide +kernel
theorem dX7_checksum_71 : decode cX7_checksum 71 = .ok (.getfield 17, 3) := by decide +kernel
theorem dX7_checksum_74 : decode cX7_checksum 74 = .ok (.astore_n 3, 1) := by decide +kernel
theorem dX7_checksum_75 : decode cX7_checksum 75 = .ok (.aload_n 3, 1) := by decide +kernel
theorem dX7_checksum_76 : decode cX7_checksum 76 = .ok (.arraylength, 1) := by decide +kernel
theorem dX7_checksum_77 : decode cX7_checksum 77 = .ok (.istore 4, 2) := by decide +kernel
theorem dX7_checksum_79 : decode cX7_checksum 79 = .ok (.iconst 0, 1) := by decide +kernel
theorem dX7_checksum_80 : decode cX7_checksum 80 = .ok (.istore 5, 2) := by decide +kernel
theorem dX7_checksum_82 : decode cX7_checksum 82 = .ok (.iload 5, 2) := by decide +kernel
theorem dX7_checksum_84 : decode cX7_checksum 84 = .ok (.iload 4, 2) := by decide +kernel
theorem dX7_checksum_86 : decode cX7_checksum 86 = .ok (.if_icmp .ge 76, 3) := by decide +kernel
theorem dX7_checksum_89 : decode cX7_checksum 89 = .ok (.aload_n 3, 1) := by decide +kernel
theorem dX7_checksum_90 : decode cX7_checksum 90 = .ok (.iload 5, 2) := by decide +kernel
theorem dX7_checksum_92 : decode cX7_checksum 92 = .ok (.aaload, 1) := by decide +kernel
theorem dX7_checksum_93 : decode cX7_checksum 93 = .ok (.astore 6, 2) := by decide +kernel
theorem dX7_checksum_95 : decode cX7_checksum 95 = .ok (.aload 6, 2) := by decide +kernel
theorem dX7_checksum_97 : decode cX7_checksum 97 = .ok (.ifnull 59, 3) := by decide +kernel
theorem dX7_checksum_100 : decode cX7_checksum 100 = .ok (.aload 6, 2) := by decide +kernel
theorem dX7_checksum_102 : decode cX7_checksum 102 = .ok (.getfield 242, 3) := by decide +kernel
theorem dX7_checksum_105 : decode cX7_checksum 105 = .ok (.ifnonnull 7, 3) := by decide +kernel
theorem dX7_checksum_108 : decode cX7_checksum 108 = .ok (.lload_n 1, 1) := by decide +kernel
theorem dX7_checksum_109 : decode cX7_checksum 109 = .ok (.goto 18, 3) := by decide +kernel
theorem dX7_checksum_112 : decode cX7_checksum 112 = .ok (.ldc2_w 327, 3) := by decide +kernel
theorem dX7_checksum_115 : decode cX7_checksum 115 = .ok (.lload_n 1, 1) := by decide +kernel
theorem dX7_checksum_116 : decode cX7_checksum 116 = .ok (.lmul, 1) := by decide +kernel
theorem dX7_checksum_117 : decode cX7_checksum 117 = .ok (.aload 6, 2) := by decide +kernel
theorem dX7_checksum_119 : decode cX7_checksum 119 = .ok (.getfield 242, 3) := by decide +kernel
theorem dX7_checksum_122 : decode cX7_checksum 122 = .ok (.getfield 200, 3) := by decide +kernel
theorem dX7_checksum_125 : decode cX7_checksum 125 = .ok (.i2l, 1) := by decide +kernel
theorem dX7_checksum_126 : decode cX7_checksum 126 = .ok (.ladd, 1) := by decide +kernel
theorem dX7_checksum_127 : decode cX7_checksum 127 = .ok (.lstore_n 1, 1) := by decide +kernel
theorem dX7_checksum_128 : decode cX7_checksum 128 = .ok (.aload 6, 2) := by decide +kernel
theorem dX7_checksum_130 : decode cX7_checksum 130 = .ok (.getfield 214, 3) := by decide +kernel
theorem dX7_checksum_133 : decode cX7_checksum 133 = .ok (.ifnonnull 7, 3) := by decide +kernel
theorem dX7_checksum_136 : decode cX7_checksum 136 = .ok (.lload_n 1, 1) := by decide +kernel
theorem dX7_checksum_137 : decode cX7_checksum 137 = .ok (.goto 18, 3) := by decide +kernel
theorem dX7_checksum_140 : decode cX7_checksum 140 = .ok (.ldc2_w 327, 3) := by decide +kernel
theorem dX7_checksum_143 : decode cX7_checksum 143 = .ok (.lload_n 1, 1) := by decide +kernel
theorem dX7_checksum_144 : decode cX7_checksum 144 = .ok (.lmul, 1) := by decide +kernel
theorem dX7_checksum_145 : decode cX7_checksum 145 = .ok (.aload 6, 2) := by decide +kernel
theorem dX7_checksum_147 : decode cX7_checksum 147 = .ok (.getfield 214, 3) := by decide +kernel
theorem dX7_checksum_150 : decode cX7_checksum 150 = .ok (.getfield 200, 3) := by decide +kernel
theorem dX7_checksum_153 : decode cX7_checksum 153 = .ok (.i2l, 1) := by decide +kernel
theorem dX7_checksum_154 : decode cX7_checksum 154 = .ok (.ladd, 1) := by decide +kernel
theorem dX7_checksum_155 : decode cX7_checksum 155 = .ok (.lstore_n 1, 1) := by decide +kernel
theorem dX7_checksum_156 : decode cX7_checksum 156 = .ok (.iinc 5 1, 3) := by decide +kernel
theorem dX7_checksum_159 : decode cX7_checksum 159 = .ok (.goto (-77), 3) := by decide +kernel
theorem dX7_checksum_162 : decode cX7_checksum 162 = .ok (.ldc2_w 327, 3) := by decide +kernel
theorem dX7_checksum_165 : decode cX7_checksum 165 = .ok (.lload_n 1, 1) := by decide +kernel
theorem dX7_checksum_166 : decode cX7_checksum 166 = .ok (.lmul, 1) := by decide +kernel
theorem dX7_checksum_167 : decode cX7_checksum 167 = .ok (.aload_n 0, 1) := by decide +kernel
theorem dX7_checksum_168 : decode cX7_checksum 168 = .ok (.getfield 24, 3) := by decide +kernel
theorem dX7_checksum_171 : decode cX7_checksum 171 = .ok (.getfield 98, 3) := by decide +kernel
theorem dX7_checksum_174 : decode cX7_checksum 174 = .ok (.i2l, 1) := by decide +kernel
theorem dX7_checksum_175 : decode cX7_checksum 175 = .ok (.ladd, 1) := by decide +kernel
theorem dX7_checksum_176 : decode cX7_checksum 176 = .ok (.lreturn, 1) := by decide +kernel
theorem dX7_isTrue_0 : decode cX7_isTrue 0 = .ok (.aload_n 0, 1) := by decide +kernel
theorem dX7_isTrue_1 : decode cX7_isTrue 1 = .ok (.invokevirtual 329, 3) := by decide +kernel
theorem dX7_isTrue_4 : decode cX7_isTrue 4 = .ok (.ifCond .eq 28, 3) := by decide +kernel
theorem dX7_isTrue_7 : decode cX7_isTrue 7 = .ok (.aload_n 0, 1) := by decide +kernel
theorem dX7_isTrue_8 : decode cX7_isTrue 8 = .ok (.invokevirtual 333, 3) := by decide +kernel
theorem dX7_isTrue_11 : decode cX7_isTrue 11 = .ok (.ifCond .eq 21, 3) := by decide +kernel
theorem dX7_isTrue_14 : decode cX7_isTrue 14 = .ok (.aload_n 0, 1) := by decide +kernel
theorem dX7_isTrue_15 : decode cX7_isTrue 15 = .ok (.invokevirtual 336, 3) := by decide +kernel
theorem dX7_isTrue_18 : decode cX7_isTrue 18 = .ok (.ifCond .eq 14, 3) := by decide +kernel
theorem dX7_isTrue_21 : decode cX7_isTrue 21 = .ok (.aload_n 0, 1) := by decide +kernel
theorem dX7_isTrue_22 : decode cX7_isTrue 22 = .ok (.invokevirtual 339, 3) := by decide +kernel
theorem dX7_isTrue_25 : decode cX7_isTrue 25 = .ok (.ifCond .eq 7, 3) := by decide +kernel
theorem dX7_isTrue_28 : decode cX7_isTrue 28 = .ok (.iconst 1, 1) := by decide +kernel
theorem dX7_isTrue_29 : decode cX7_isTrue 29 = .ok (.goto 4, 3) := by decide +kernel
theorem dX7_isTrue_32 : decode cX7_isTrue 32 = .ok (.iconst 0, 1) := by decide +kernel
theorem dX7_isTrue_33 : decode cX7_isTrue 33 = .ok (.ireturn, 1) := by decide +kernel
theorem dX7_isWay_0 : decode cX7_isWay 0 = .ok (.iload_n 0, 1) := by decide +kernel
theorem dX7_isWay_1 : decode cX7_isWay 1 = .ok (.bipush 115, 2) := by decide +kernel
theorem dX7_isWay_3 : decode cX7_isWay 3 = .ok (.if_icmp .eq 15, 3) := by decide +kernel
theorem dX7_isWay_6 : decode cX7_isWay 6 = .ok (.iload_n 0, 1) := by decide +kernel
theorem dX7_isWay_7 : decode cX7_isWay 7 = .ok (.bipush 109, 2) := by decide +kernel
theorem dX7_isWay_9 : decode cX7_isWay 9 = .ok (.if_icmp .eq 9, 3) := by decide +kernel
theorem dX7_isWay_12 : decode cX7_isWay 12 = .ok (.iload_n 0, 1) := by decide +kernel
theorem dX7_isWay_13 : decode cX7_isWay 13 = .ok (.bipush 121, 2) := by decide +kernel
theorem dX7_isWay_15 : decode cX7_isWay 15 = .ok (.if_icmp .ne 7, 3) := by decide +kernel
theorem dX7_isWay_18 : decode cX7_isWay 18 = .ok (.iconst 1, 1) := by decide +kernel
theorem dX7_isWay_19 : decode cX7_isWay 19 = .ok (.goto 4, 3) := by decide +kernel
theorem dX7_isWay_22 : decode cX7_isWay 22 = .ok (.iconst 0, 1) := by decide +kernel
theorem dX7_isWay_23 : decode cX7_isWay 23 = .ok (.ireturn, 1) := by decide +kernel
theorem dX7_isPlace_0 : decode cX7_isPlace 0 = .ok (.iload_n 1, 1) := by decide +kernel
theorem dX7_isPlace_1 : decode cX7_isPlace 1 = .ok (.ifCond .lt 27, 3) := by decide +kernel
theorem dX7_isPlace_4 : decode cX7_isPlace 4 = .ok (.iload_n 1, 1) := by decide +kernel
theorem dX7_isPlace_5 : decode cX7_isPlace 5 = .ok (.aload_n 0, 1) := by decide +kernel
theorem dX7_isPlace_6 : decode cX7_isPlace 6 = .ok (.getfield 136, 3) := by decide +kernel
theorem dX7_isPlace_9 : decode cX7_isPlace 9 = .ok (.if_icmp .gt 19, 3) := by decide +kernel
theorem dX7_isPlace_12 : decode cX7_isPlace 12 = .ok (.iload_n 2, 1) := by decide +kernel
theorem dX7_isPlace_13 : decode cX7_isPlace 13 = .ok (.bipush 108, 2) := by decide +kernel
theorem dX7_isPlace_15 : decode cX7_isPlace 15 = .ok (.if_icmp .eq 9, 3) := by decide +kernel
theorem dX7_isPlace_18 : decode cX7_isPlace 18 = .ok (.iload_n 2, 1) := by decide +kernel
theorem dX7_isPlace_19 : decode cX7_isPlace 19 = .ok (.bipush 114, 2) := by decide +kernel
theorem dX7_isPlace_21 : decode cX7_isPlace 21 = .ok (.if_icmp .ne 7, 3) := by decide +kernel
theorem dX7_isPlace_24 : decode cX7_isPlace 24 = .ok (.iconst 1, 1) := by decide +kernel
theorem dX7_isPlace_25 : decode cX7_isPlace 25 = .ok (.goto 4, 3) := by decide +kernel
theorem dX7_isPlace_28 : decode cX7_isPlace 28 = .ok (.iconst 0, 1) := by decide +kernel
theorem dX7_isPlace_29 : decode cX7_isPlace 29 = .ok (.ireturn, 1) := by decide +kernel
theorem dX7_isStanding_0 : decode cX7_isStanding 0 = .ok (.aload_n 0, 1) := by decide +kernel
theorem dX7_isStanding_1 : decode cX7_isStanding 1 = .ok (.ifnull 14, 3) := by decide +kernel
theorem dX7_isStanding_4 : decode cX7_isStanding 4 = .ok (.aload_n 0, 1) := by decide +kernel
theorem dX7_isStanding_5 : decode cX7_isStanding 5 = .ok (.getfield 176, 3) := by decide +kernel
theorem dX7_isStanding_8 : decode cX7_isStanding 8 = .ok (.ifCond .ne 7, 3) := by decide +kernel
theorem dX7_isStanding_11 : decode cX7_isStanding 11 = .ok (.iconst 1, 1) := by decide +kernel
theorem dX7_isStanding_12 : decode cX7_isStanding 12 = .ok (.goto 4, 3) := by decide +kernel
theorem dX7_isStanding_15 : decode cX7_isStanding 15 = .ok (.iconst 0, 1) := by decide +kernel
theorem dX7_isStanding_16 : decode cX7_isStanding 16 = .ok (.ireturn, 1) := by decide +kernel
theorem dX7_standing_0 : decode cX7_standing 0 = .ok (.iload_n 1, 1) := by decide +kernel
theorem dX7_standing_1 : decode cX7_standing 1 = .ok (.ifCond .lt 24, 3) := by decide +kernel
theorem dX7_standing_4 : decode cX7_standing 4 = .ok (.iload_n 1, 1) := by decide +kernel
theorem dX7_standing_5 : decode cX7_standing 5 = .ok (.aload_n 0, 1) := by decide +kernel
theorem dX7_standing_6 : decode cX7_standing 6 = .ok (.getfield 11, 3) := by decide +kernel
theorem dX7_standing_9 : decode cX7_standing 9 = .ok (.arraylength, 1) := by decide +kernel
theorem dX7_standing_10 : decode cX7_standing 10 = .ok (.if_icmp .ge 15, 3) := by decide +kernel
theorem dX7_standing_13 : decode cX7_standing 13 = .ok (.aload_n 0, 1) := by decide +kernel
theorem dX7_standing_14 : decode cX7_standing 14 = .ok (.getfield 11, 3) := by decide +kernel
theorem dX7_standing_17 : decode cX7_standing 17 = .ok (.iload_n 1, 1) := by decide +kernel
theorem dX7_standing_18 : decode cX7_standing 18 = .ok (.aaload, 1) := by decide +kernel
theorem dX7_standing_19 : decode cX7_standing 19 = .ok (.invokestatic 179, 3) := by decide +kernel
theorem dX7_standing_22 : decode cX7_standing 22 = .ok (.ifCond .ne 14, 3) := by decide +kernel
theorem dX7_standing_25 : decode cX7_standing 25 = .ok (.new 342, 3) := by decide +kernel
theorem dX7_standing_28 : decode cX7_standing 28 = .ok (.dup, 1) := by decide +kernel
theorem dX7_standing_29 : decode cX7_standing 29 = .ok (.ldc_w 344, 3) := by decide +kernel
theorem dX7_standing_32 : decode cX7_standing 32 = .ok (.invokespecial 346, 3) := by decide +kernel
theorem dX7_standing_35 : decode cX7_standing 35 = .ok (.athrow, 1) := by decide +kernel
theorem dX7_standing_36 : decode cX7_standing 36 = .ok (.aload_n 0, 1) := by decide +kernel
theorem dX7_standing_37 : decode cX7_standing 37 = .ok (.getfield 11, 3) := by decide +kernel
theorem dX7_standing_40 : decode cX7_standing 40 = .ok (.iload_n 1, 1) := by decide +kernel
theorem dX7_standing_41 : decode cX7_standing 41 = .ok (.aaload, 1) := by decide +kernel
theorem dX7_standing_42 : decode cX7_standing 42 = .ok (.areturn, 1) := by decide +kernel
theorem dX7_doorAt_0 : decode cX7_doorAt 0 = .ok (.iload_n 1, 1) := by decide +kernel
theorem dX7_doorAt_1 : decode cX7_doorAt 1 = .ok (.ifCond .lt 12, 3) := by decide +kernel
theorem dX7_doorAt_4 : decode cX7_doorAt 4 = .ok (.iload_n 1, 1) := by decide +kernel
theorem dX7_doorAt_5 : decode cX7_doorAt 5 = .ok (.aload_n 0, 1) := by decide +kernel
theorem dX7_doorAt_6 : decode cX7_doorAt 6 = .ok (.getfield 17, 3) := by decide +kernel
theorem dX7_doorAt_9 : decode cX7_doorAt 9 = .ok (.arraylength, 1) := by decide +kernel
theorem dX7_doorAt_10 : decode cX7_doorAt 10 = .ok (.if_icmp .lt 5, 3) := by decide +kernel
theorem dX7_doorAt_13 : decode cX7_doorAt 13 = .ok (.aconst_null, 1) := by decide +kernel
theorem dX7_doorAt_14 : decode cX7_doorAt 14 = .ok (.areturn, 1) := by decide +kernel
theorem dX7_doorAt_15 : decode cX7_doorAt 15 = .ok (.aload_n 0, 1) := by decide +kernel
theorem dX7_doorAt_16 : decode cX7_doorAt 16 = .ok (.getfield 17, 3) := by decide +kernel
theorem dX7_doorAt_19 : decode cX7_doorAt 19 = .ok (.iload_n 1, 1) := by decide +kernel
theorem dX7_doorAt_20 : decode cX7_doorAt 20 = .ok (.aaload, 1) := by decide +kernel
theorem dX7_doorAt_21 : decode cX7_doorAt 21 = .ok (.areturn, 1) := by decide +kernel
theorem dX7_known_0 : decode cX7_known 0 = .ok (.aload_n 0, 1) := by decide +kernel
theorem dX7_known_1 : decode cX7_known 1 = .ok (.iload_n 1, 1) := by decide +kernel
theorem dX7_known_2 : decode cX7_known 2 = .ok (.invokevirtual 278, 3) := by decide +kernel
theorem dX7_known_5 : decode cX7_known 5 = .ok (.astore_n 2, 1) := by decide +kernel
theorem dX7_known_6 : decode cX7_known 6 = .ok (.aload_n 2, 1) := by decide +kernel
theorem dX7_known_7 : decode cX7_known 7 = .ok (.ifnonnull 14, 3) := by decide +kernel
theorem dX7_known_10 : decode cX7_known 10 = .ok (.new 342, 3) := by decide +kernel
theorem dX7_known_13 : decode cX7_known 13 = .ok (.dup, 1) := by decide +kernel
theorem dX7_known_14 : decode cX7_known 14 = .ok (.ldc_w 347, 3) := by decide +kernel
theorem dX7_known_17 : decode cX7_known 17 = .ok (.invokespecial 346, 3) := by decide +kernel
theorem dX7_known_20 : decode cX7_known 20 = .ok (.athrow, 1) := by decide +kernel
theorem dX7_known_21 : decode cX7_known 21 = .ok (.aload_n 2, 1) := by decide +kernel
theorem dX7_known_22 : decode cX7_known 22 = .ok (.areturn, 1) := by decide +kernel
theorem dX7_isInUse_0 : decode cX7_isInUse 0 = .ok (.aload_n 0, 1) := by decide +kernel
theorem dX7_isInUse_1 : decode cX7_isInUse 1 = .ok (.getfield 11, 3) := by decide +kernel
theorem dX7_isInUse_4 : decode cX7_isInUse 4 = .ok (.astore_n 3, 1) := by decide +kernel
theorem dX7_isInUse_5 : decode cX7_isInUse 5 = .ok (.aload_n 3, 1) := by decide +kernel
theorem dX7_isInUse_6 : decode cX7_isInUse 6 = .ok (.arraylength, 1) := by decide +kernel
theorem dX7_isInUse_7 : decode cX7_isInUse 7 = .ok (.istore 4, 2) := by decide +kernel
theorem dX7_isInUse_9 : decode cX7_isInUse 9 = .ok (.iconst 0, 1) := by decide +kernel
theorem dX7_isInUse_10 : decode cX7_isInUse 10 = .ok (.istore 5, 2) := by decide +kernel
theorem dX7_isInUse_12 : decode cX7_isInUse 12 = .ok (.iload 5, 2) := by decide +kernel
theorem dX7_isInUse_14 : decode cX7_isInUse 14 = .ok (.iload 4, 2) := by decide +kernel
theorem dX7_isInUse_16 : decode cX7_isInUse 16 = .ok (.if_icmp .ge 34, 3) := by decide +kernel
theorem dX7_isInUse_19 : decode cX7_isInUse 19 = .ok (.aload_n 3, 1) := by decide +kernel
theorem dX7_isInUse_20 : decode cX7_isInUse 20 = .ok (.iload 5, 2) := by decide +kernel
theorem dX7_isInUse_22 : decode cX7_isInUse 22 = .ok (.aaload, 1) := by decide +kernel
theorem dX7_isInUse_23 : decode cX7_isInUse 23 = .ok (.astore 6, 2) := by decide +kernel
theorem dX7_isInUse_25 : decode cX7_isInUse 25 = .ok (.aload 6, 2) := by decide +kernel
theorem dX7_isInUse_27 : decode cX7_isInUse 27 = .ok (.invokestatic 179, 3) := by decide +kernel
theorem dX7_isInUse_30 : decode cX7_isInUse 30 = .ok (.ifCond .eq 14, 3) := by decide +kernel
theorem dX7_isInUse_33 : decode cX7_isInUse 33 = .ok (.aload 6, 2) := by decide +kernel
theorem dX7_isInUse_35 : decode cX7_isInUse 35 = .ok (.lload_n 1, 1) := by decide +kernel
theorem dX7_isInUse_36 : decode cX7_isInUse 36 = .ok (.invokevirtual 349, 3) := by decide +kernel
theorem dX7_isInUse_39 : decode cX7_isInUse 39 = .ok (.ifCond .eq 5, 3) := by decide +kernel
theorem dX7_isInUse_42 : decode cX7_isInUse 42 = .ok (.iconst 1, 1) := by decide +kernel
theorem dX7_isInUse_43 : decode cX7_isInUse 43 = .ok (.ireturn, 1) := by decide +kernel
theorem dX7_isInUse_44 : decode cX7_isInUse 44 = .ok (.iinc 5 1, 3) := by decide +kernel
theorem dX7_isInUse_47 : decode cX7_isInUse 47 = .ok (.goto (-35), 3) := by decide +kernel
theorem dX7_isInUse_50 : decode cX7_isInUse 50 = .ok (.iconst 0, 1) := by decide +kernel
theorem dX7_isInUse_51 : decode cX7_isInUse 51 = .ok (.ireturn, 1) := by decide +kernel
theorem dX7_placeOf_0 : decode cX7_placeOf 0 = .ok (.aload_n 0, 1) := by decide +kernel
theorem dX7_placeOf_1 : decode cX7_placeOf 1 = .ok (.ifnonnull 7, 3) := by decide +kernel
theorem dX7_placeOf_4 : decode cX7_placeOf 4 = .ok (.aconst_null, 1) := by decide +kernel
theorem dX7_placeOf_5 : decode cX7_placeOf 5 = .ok (.goto 8, 3) := by decide +kernel
theorem dX7_placeOf_8 : decode cX7_placeOf 8 = .ok (.aload_n 0, 1) := by decide +kernel
theorem dX7_placeOf_9 : decode cX7_placeOf 9 = .ok (.aload_n 1, 1) := by decide +kernel
theorem dX7_placeOf_10 : decode cX7_placeOf 10 = .ok (.invokevirtual 218, 3) := by decide +kernel
theorem dX7_placeOf_13 : decode cX7_placeOf 13 = .ok (.areturn, 1) := by decide +kernel
theorem dX7_doorsOn_0 : decode cX7_doorsOn 0 = .ok (.iconst 0, 1) := by decide +kernel
theorem dX7_doorsOn_1 : decode cX7_doorsOn 1 = .ok (.istore_n 2, 1) := by decide +kernel
theorem dX7_doorsOn_2 : decode cX7_doorsOn 2 = .ok (.aload_n 0, 1) := by decide +kernel
theorem dX7_doorsOn_3 : decode cX7_doorsOn 3 = .ok (.getfield 17, 3) := by decide +kernel
theorem dX7_doorsOn_6 : decode cX7_doorsOn 6 = .ok (.astore_n 3, 1) := by decide +kernel
theorem dX7_doorsOn_7 : decode cX7_doorsOn 7 = .ok (.aload_n 3, 1) := by decide +kernel
theorem dX7_doorsOn_8 : decode cX7_doorsOn 8 = .ok (.arraylength, 1) := by decide +kernel
theorem dX7_doorsOn_9 : decode cX7_doorsOn 9 = .ok (.istore 4, 2) := by decide +kernel
theorem dX7_doorsOn_11 : decode cX7_doorsOn 11 = .ok (.iconst 0, 1) := by decide +kernel
theorem dX7_doorsOn_12 : decode cX7_doorsOn 12 = .ok (.istore 5, 2) := by decide +kernel
theorem dX7_doorsOn_14 : decode cX7_doorsOn 14 = .ok (.iload 5, 2) := by decide +kernel
theorem dX7_doorsOn_16 : decode cX7_doorsOn 16 = .ok (.iload 4, 2) := by decide +kernel
theorem dX7_doorsOn_18 : decode cX7_doorsOn 18 = .ok (.if_icmp .ge 27, 3) := by decide +kernel
theorem dX7_doorsOn_21 : decode cX7_doorsOn 21 = .ok (.aload_n 3, 1) := by decide +kernel
theorem dX7_doorsOn_22 : decode cX7_doorsOn 22 = .ok (.iload 5, 2) := by decide +kernel
theorem dX7_doorsOn_24 : decode cX7_doorsOn 24 = .ok (.aaload, 1) := by decide +kernel
theorem dX7_doorsOn_25 : decode cX7_doorsOn 25 = .ok (.astore 6, 2) := by decide +kernel
theorem dX7_doorsOn_27 : decode cX7_doorsOn 27 = .ok (.aload 6, 2) := by decide +kernel
theorem dX7_doorsOn_29 : decode cX7_doorsOn 29 = .ok (.aload_n 1, 1) := by decide +kernel
theorem dX7_doorsOn_30 : decode cX7_doorsOn 30 = .ok (.invokestatic 299, 3) := by decide +kernel
theorem dX7_doorsOn_33 : decode cX7_doorsOn 33 = .ok (.ifnull 6, 3) := by decide +kernel
theorem dX7_doorsOn_36 : decode cX7_doorsOn 36 = .ok (.iinc 2 1, 3) := by decide +kernel
theorem dX7_doorsOn_39 : decode cX7_doorsOn 39 = .ok (.iinc 5 1, 3) := by decide +kernel
theorem dX7_doorsOn_42 : decode cX7_doorsOn 42 = .ok (.goto (-28), 3) := by decide +kernel
theorem dX7_doorsOn_45 : decode cX7_doorsOn 45 = .ok (.iload_n 2, 1) := by decide +kernel
theorem dX7_doorsOn_46 : decode cX7_doorsOn 46 = .ok (.ireturn, 1) := by decide +kernel
theorem dX7_doorNow_0 : decode cX7_doorNow 0 = .ok (.aload_n 0, 1) := by decide +kernel
theorem dX7_doorNow_1 : decode cX7_doorNow 1 = .ok (.getfield 17, 3) := by decide +kernel
theorem dX7_doorNow_4 : decode cX7_doorNow 4 = .ok (.astore 4, 2) := by decide +kernel
theorem dX7_doorNow_6 : decode cX7_doorNow 6 = .ok (.aload 4, 2) := by decide +kernel
theorem dX7_doorNow_8 : decode cX7_doorNow 8 = .ok (.arraylength, 1) := by decide +kernel
theorem dX7_doorNow_9 : decode cX7_doorNow 9 = .ok (.istore 5, 2) := by decide +kernel
theorem dX7_doorNow_11 : decode cX7_doorNow 11 = .ok (.iconst 0, 1) := by decide +kernel
theorem dX7_doorNow_12 : decode cX7_doorNow 12 = .ok (.istore 6, 2) := by decide +kernel
theorem dX7_doorNow_14 : decode cX7_doorNow 14 = .ok (.iload 6, 2) := by decide +kernel
theorem dX7_doorNow_16 : decode cX7_doorNow 16 = .ok (.iload 5, 2) := by decide +kernel
theorem dX7_doorNow_18 : decode cX7_doorNow 18 = .ok (.if_icmp .ge 34, 3) := by decide +kernel
theorem dX7_doorNow_21 : decode cX7_doorNow 21 = .ok (.aload 4, 2) := by decide +kernel
theorem dX7_doorNow_23 : decode cX7_doorNow 23 = .ok (.iload 6, 2) := by decide +kernel
theorem dX7_doorNow_25 : decode cX7_doorNow 25 = .ok (.aaload, 1) := by decide +kernel
theorem dX7_doorNow_26 : decode cX7_doorNow 26 = .ok (.astore 7, 2) := by decide +kernel
theorem dX7_doorNow_28 : decode cX7_doorNow 28 = .ok (.aload 7, 2) := by decide +kernel
theorem dX7_doorNow_30 : decode cX7_doorNow 30 = .ok (.ifnull 16, 3) := by decide +kernel
theorem dX7_doorNow_33 : decode cX7_doorNow 33 = .ok (.aload 7, 2) := by decide +kernel
theorem dX7_doorNow_35 : decode cX7_doorNow 35 = .ok (.lload_n 1, 1) := by decide +kernel
theorem dX7_doorNow_36 : decode cX7_doorNow 36 = .ok (.iload_n 3, 1) := by decide +kernel
theorem dX7_doorNow_37 : decode cX7_doorNow 37 = .ok (.invokevirtual 352, 3) := by decide +kernel
theorem dX7_doorNow_40 : decode cX7_doorNow 40 = .ok (.ifCond .eq 6, 3) := by decide +kernel
theorem dX7_doorNow_43 : decode cX7_doorNow 43 = .ok (.aload 7, 2) := by decide +kernel
theorem dX7_doorNow_45 : decode cX7_doorNow 45 = .ok (.areturn, 1) := by decide +kernel
theorem dX7_doorNow_46 : decode cX7_doorNow 46 = .ok (.iinc 6 1, 3) := by decide +kernel
theorem dX7_doorNow_49 : decode cX7_doorNow 49 = .ok (.goto (-35), 3) := by decide +kernel
theorem dX7_doorNow_52 : decode cX7_doorNow 52 = .ok (.aconst_null, 1) := by decide +kernel
theorem dX7_doorNow_53 : decode cX7_doorNow 53 = .ok (.areturn, 1) := by decide +kernel
theorem dX7_endOf_0 : decode cX7_endOf 0 = .ok (.aload_n 0, 1) := by decide +kernel
theorem dX7_endOf_1 : decode cX7_endOf 1 = .ok (.astore_n 1, 1) := by decide +kernel
theorem dX7_endOf_2 : decode cX7_endOf 2 = .ok (.iconst 0, 1) := by decide +kernel
theorem dX7_endOf_3 : decode cX7_endOf 3 = .ok (.istore_n 2, 1) := by decide +kernel
theorem dX7_endOf_4 : decode cX7_endOf 4 = .ok (.iload_n 2, 1) := by decide +kernel
theorem dX7_endOf_5 : decode cX7_endOf 5 = .ok (.bipush 40, 2) := by decide +kernel
theorem dX7_endOf_7 : decode cX7_endOf 7 = .ok (.if_icmp .ge 25, 3) := by decide +kernel
theorem dX7_endOf_10 : decode cX7_endOf 10 = .ok (.aload_n 1, 1) := by decide +kernel
theorem dX7_endOf_11 : decode cX7_endOf 11 = .ok (.ifnull 21, 3) := by decide +kernel
theorem dX7_endOf_14 : decode cX7_endOf 14 = .ok (.aload_n 1, 1) := by decide +kernel
theorem dX7_endOf_15 : decode cX7_endOf 15 = .ok (.getfield 213, 3) := by decide +kernel
theorem dX7_endOf_18 : decode cX7_endOf 18 = .ok (.ifCond .eq 14, 3) := by decide +kernel
theorem dX7_endOf_21 : decode cX7_endOf 21 = .ok (.aload_n 1, 1) := by decide +kernel
theorem dX7_endOf_22 : decode cX7_endOf 22 = .ok (.getfield 232, 3) := by decide +kernel
theorem dX7_endOf_25 : decode cX7_endOf 25 = .ok (.astore_n 1, 1) := by decide +kernel
theorem dX7_endOf_26 : decode cX7_endOf 26 = .ok (.iinc 2 1, 3) := by decide +kernel
theorem dX7_endOf_29 : decode cX7_endOf 29 = .ok (.goto (-25), 3) := by decide +kernel
theorem dX7_endOf_32 : decode cX7_endOf 32 = .ok (.aload_n 1, 1) := by decide +kernel
theorem dX7_endOf_33 : decode cX7_endOf 33 = .ok (.areturn, 1) := by decide +kernel
theorem dX7_leadingTo_0 : decode cX7_leadingTo 0 = .ok (.iconst 0, 1) := by decide +kernel
theorem dX7_leadingTo_1 : decode cX7_leadingTo 1 = .ok (.istore_n 2, 1) := by decide +kernel
theorem dX7_leadingTo_2 : decode cX7_leadingTo 2 = .ok (.aload_n 0, 1) := by decide +kernel
theorem dX7_leadingTo_3 : decode cX7_leadingTo 3 = .ok (.getfield 17, 3) := by decide +kernel
theorem dX7_leadingTo_6 : decode cX7_leadingTo 6 = .ok (.astore_n 3, 1) := by decide +kernel
theorem dX7_leadingTo_7 : decode cX7_leadingTo 7 = .ok (.aload_n 3, 1) := by decide +kernel
theorem dX7_leadingTo_8 : decode cX7_leadingTo 8 = .ok (.arraylength, 1) := by decide +kernel
theorem dX7_leadingTo_9 : decode cX7_leadingTo 9 = .ok (.istore 4, 2) := by decide +kernel
theorem dX7_leadingTo_11 : decode cX7_leadingTo 11 = .ok (.iconst 0, 1) := by decide +kernel
theorem dX7_leadingTo_12 : decode cX7_leadingTo 12 = .ok (.istore 5, 2) := by decide +kernel
theorem dX7_leadingTo_14 : decode cX7_leadingTo 14 = .ok (.iload 5, 2) := by decide +kernel
theorem dX7_leadingTo_16 : decode cX7_leadingTo 16 = .ok (.iload 4, 2) := by decide +kernel
theorem dX7_leadingTo_18 : decode cX7_leadingTo 18 = .ok (.if_icmp .ge 38, 3) := by decide +kernel
theorem dX7_leadingTo_21 : decode cX7_leadingTo 21 = .ok (.aload_n 3, 1) := by decide +kernel
theorem dX7_leadingTo_22 : decode cX7_leadingTo 22 = .ok (.iload 5, 2) := by decide +kernel
theorem dX7_leadingTo_24 : decode cX7_leadingTo 24 = .ok (.aaload, 1) := by decide +kernel
theorem dX7_leadingTo_25 : decode cX7_leadingTo 25 = .ok (.astore 6, 2) := by decide +kernel
theorem dX7_leadingTo_27 : decode cX7_leadingTo 27 = .ok (.aload 6, 2) := by decide +kernel
theorem dX7_leadingTo_29 : decode cX7_leadingTo 29 = .ok (.ifnull 21, 3) := by decide +kernel
theorem dX7_leadingTo_32 : decode cX7_leadingTo 32 = .ok (.aload 6, 2) := by decide +kernel
theorem dX7_leadingTo_34 : decode cX7_leadingTo 34 = .ok (.aload_n 1, 1) := by decide +kernel
theorem dX7_leadingTo_35 : decode cX7_leadingTo 35 = .ok (.if_acmp .eq 15, 3) := by decide +kernel
theorem dX7_leadingTo_38 : decode cX7_leadingTo 38 = .ok (.aload 6, 2) := by decide +kernel
theorem dX7_leadingTo_40 : decode cX7_leadingTo 40 = .ok (.invokestatic 281, 3) := by decide +kernel
theorem dX7_leadingTo_43 : decode cX7_leadingTo 43 = .ok (.aload_n 1, 1) := by decide +kernel
theorem dX7_leadingTo_44 : decode cX7_leadingTo 44 = .ok (.if_acmp .ne 6, 3) := by decide +kernel
theorem dX7_leadingTo_47 : decode cX7_leadingTo 47 = .ok (.iinc 2 1, 3) := by decide +kernel
theorem dX7_leadingTo_50 : decode cX7_leadingTo 50 = .ok (.iinc 5 1, 3) := by decide +kernel
theorem dX7_leadingTo_53 : decode cX7_leadingTo 53 = .ok (.goto (-39), 3) := by decide +kernel
theorem dX7_leadingTo_56 : decode cX7_leadingTo 56 = .ok (.iload_n 2, 1) := by decide +kernel
theorem dX7_leadingTo_57 : decode cX7_leadingTo 57 = .ok (.ireturn, 1) := by decide +kernel
theorem dX7_remember_0 : decode cX7_remember 0 = .ok (.lload_n 1, 1) := by decide +kernel
theorem dX7_remember_1 : decode cX7_remember 1 = .ok (.lconst 0, 1) := by decide +kernel
theorem dX7_remember_2 : decode cX7_remember 2 = .ok (.lcmp, 1) := by decide +kernel
theorem dX7_remember_3 : decode cX7_remember 3 = .ok (.ifCond .eq 27, 3) := by decide +kernel
theorem dX7_remember_6 : decode cX7_remember 6 = .ok (.aload_n 3, 1) := by decide +kernel
theorem dX7_remember_7 : decode cX7_remember 7 = .ok (.ifnull 23, 3) := by decide +kernel
theorem dX7_remember_10 : decode cX7_remember 10 = .ok (.aload_n 0, 1) := by decide +kernel
theorem dX7_remember_11 : decode cX7_remember 11 = .ok (.getfield 24, 3) := by decide +kernel
theorem dX7_remember_14 : decode cX7_remember 14 = .ok (.lload_n 1, 1) := by decide +kernel
theorem dX7_remember_15 : decode cX7_remember 15 = .ok (.aload_n 3, 1) := by decide +kernel
theorem dX7_remember_16 : decode cX7_remember 16 = .ok (.getfield 200, 3) := by decide +kernel
theorem dX7_remember_19 : decode cX7_remember 19 = .ok (.aload_n 3, 1) := by decide +kernel
theorem dX7_remember_20 : decode cX7_remember 20 = .ok (.getfield 356, 3) := by decide +kernel
theorem dX7_remember_23 : decode cX7_remember 23 = .ok (.aload_n 0, 1) := by decide +kernel
theorem dX7_remember_24 : decode cX7_remember 24 = .ok (.getfield 55, 3) := by decide +kernel
theorem dX7_remember_27 : decode cX7_remember 27 = .ok (.invokevirtual 359, 3) := by decide +kernel
theorem dX7_remember_30 : decode cX7_remember 30 = .ok (.return_, 1) := by decide +kernel
theorem dX7_rememberBoth_0 : decode cX7_rememberBoth 0 = .ok (.aload_n 1, 1) := by decide +kernel
theorem dX7_rememberBoth_1 : decode cX7_rememberBoth 1 = .ok (.ifnull 34, 3) := by decide +kernel
theorem dX7_rememberBoth_4 : decode cX7_rememberBoth 4 = .ok (.aload_n 1, 1) := by decide +kernel
theorem dX7_rememberBoth_5 : decode cX7_rememberBoth 5 = .ok (.getfield 247, 3) := by decide +kernel
theorem dX7_rememberBoth_8 : decode cX7_rememberBoth 8 = .ok (.ifnull 27, 3) := by decide +kernel
theorem dX7_rememberBoth_11 : decode cX7_rememberBoth 11 = .ok (.aload_n 0, 1) := by decide +kernel
theorem dX7_rememberBoth_12 : decode cX7_rememberBoth 12 = .ok (.aload_n 1, 1) := by decide +kernel
theorem dX7_rememberBoth_13 : decode cX7_rememberBoth 13 = .ok (.getfield 247, 3) := by decide +kernel
theorem dX7_rememberBoth_16 : decode cX7_rememberBoth 16 = .ok (.getfield 91, 3) := by decide +kernel
theorem dX7_rememberBoth_19 : decode cX7_rememberBoth 19 = .ok (.aload_n 1, 1) := by decide +kernel
theorem dX7_rememberBoth_20 : decode cX7_rememberBoth 20 = .ok (.invokevirtual 363, 3) := by decide +kernel
theorem dX7_rememberBoth_23 : decode cX7_rememberBoth 23 = .ok (.aload_n 0, 1) := by decide +kernel
theorem dX7_rememberBoth_24 : decode cX7_rememberBoth 24 = .ok (.aload_n 1, 1) := by decide +kernel
theorem dX7_rememberBoth_25 : decode cX7_rememberBoth 25 = .ok (.getfield 247, 3) := by decide +kernel
theorem dX7_rememberBoth_28 : decode cX7_rememberBoth 28 = .ok (.getfield 103, 3) := by decide +kernel
theorem dX7_rememberBoth_31 : decode cX7_rememberBoth 31 = .ok (.aload_n 1, 1) := by decide +kernel
theorem dX7_rememberBoth_32 : decode cX7_rememberBoth 32 = .ok (.invokevirtual 363, 3) := by decide +kernel
theorem dX7_rememberBoth_35 : decode cX7_rememberBoth 35 = .ok (.return_, 1) := by decide +kernel
theorem dX7_rememberAll_0 : decode cX7_rememberAll 0 = .ok (.aload_n 0, 1) := by decide +kernel
theorem dX7_rememberAll_1 : decode cX7_rememberAll 1 = .ok (.getfield 17, 3) := by decide +kernel
theorem dX7_rememberAll_4 : decode cX7_rememberAll 4 = .ok (.astore 4, 2) := by decide +kernel
theorem dX7_rememberAll_6 : decode cX7_rememberAll 6 = .ok (.aload 4, 2) := by decide +kernel
theorem dX7_rememberAll_8 : decode cX7_rememberAll 8 = .ok (.arraylength, 1) := by decide +kernel
theorem dX7_rememberAll_9 : decode cX7_rememberAll 9 = .ok (.istore 5, 2) := by decide +kernel
theorem dX7_rememberAll_11 : decode cX7_rememberAll 11 = .ok (.iconst 0, 1) := by decide +kernel
theorem dX7_rememberAll_12 : decode cX7_rememberAll 12 = .ok (.istore 6, 2) := by decide +kernel
theorem dX7_rememberAll_14 : decode cX7_rememberAll 14 = .ok (.iload 6, 2) := by decide +kernel
theorem dX7_rememberAll_16 : decode cX7_rememberAll 16 = .ok (.iload 5, 2) := by decide +kernel
theorem dX7_rememberAll_18 : decode cX7_rememberAll 18 = .ok (.if_icmp .ge 27, 3) := by decide +kernel
theorem dX7_rememberAll_21 : decode cX7_rememberAll 21 = .ok (.aload 4, 2) := by decide +kernel
theorem dX7_rememberAll_23 : decode cX7_rememberAll 23 = .ok (.iload 6, 2) := by decide +kernel
theorem dX7_rememberAll_25 : decode cX7_rememberAll 25 = .ok (.aaload, 1) := by decide +kernel
theorem dX7_rememberAll_26 : decode cX7_rememberAll 26 = .ok (.astore 7, 2) := by decide +kernel
theorem dX7_rememberAll_28 : decode cX7_rememberAll 28 = .ok (.aload_n 0, 1) := by decide +kernel
theorem dX7_rememberAll_29 : decode cX7_rememberAll 29 = .ok (.lload_n 2, 1) := by decide +kernel
theorem dX7_rememberAll_30 : decode cX7_rememberAll 30 = .ok (.aload 7, 2) := by decide +kernel
theorem dX7_rememberAll_32 : decode cX7_rememberAll 32 = .ok (.aload_n 1, 1) := by decide +kernel
theorem dX7_rememberAll_33 : decode cX7_rememberAll 33 = .ok (.invokestatic 299, 3) := by decide +kernel
theorem dX7_rememberAll_36 : decode cX7_rememberAll 36 = .ok (.invokevirtual 363, 3) := by decide +kernel
theorem dX7_rememberAll_39 : decode cX7_rememberAll 39 = .ok (.iinc 6 1, 3) := by decide +kernel
theorem dX7_rememberAll_42 : decode cX7_rememberAll 42 = .ok (.goto (-28), 3) := by decide +kernel
theorem dX7_rememberAll_45 : decode cX7_rememberAll 45 = .ok (.return_, 1) := by decide +kernel
theorem dX7_rememberAll__0 : decode cX7_rememberAll_ 0 = .ok (.aload_n 0, 1) := by decide +kernel
theorem dX7_rememberAll__1 : decode cX7_rememberAll_ 1 = .ok (.getfield 17, 3) := by decide +kernel
theorem dX7_rememberAll__4 : decode cX7_rememberAll_ 4 = .ok (.astore_n 2, 1) := by decide +kernel
theorem dX7_rememberAll__5 : decode cX7_rememberAll_ 5 = .ok (.aload_n 2, 1) := by decide +kernel
theorem dX7_rememberAll__6 : decode cX7_rememberAll_ 6 = .ok (.arraylength, 1) := by decide +kernel
theorem dX7_rememberAll__7 : decode cX7_rememberAll_ 7 = .ok (.istore_n 3, 1) := by decide +kernel
theorem dX7_rememberAll__8 : decode cX7_rememberAll_ 8 = .ok (.iconst 0, 1) := by decide +kernel
theorem dX7_rememberAll__9 : decode cX7_rememberAll_ 9 = .ok (.istore 4, 2) := by decide +kernel
theorem dX7_rememberAll__11 : decode cX7_rememberAll_ 11 = .ok (.iload 4, 2) := by decide +kernel
theorem dX7_rememberAll__13 : decode cX7_rememberAll_ 13 = .ok (.iload_n 3, 1) := by decide +kernel
theorem dX7_rememberAll__14 : decode cX7_rememberAll_ 14 = .ok (.if_icmp .ge 25, 3) := by decide +kernel
theorem dX7_rememberAll__17 : decode cX7_rememberAll_ 17 = .ok (.aload_n 2, 1) := by decide +kernel
theorem dX7_rememberAll__18 : decode cX7_rememberAll_ 18 = .ok (.iload 4, 2) := by decide +kernel
theorem dX7_rememberAll__20 : decode cX7_rememberAll_ 20 = .ok (.aaload, 1) := by decide +kernel
theorem dX7_rememberAll__21 : decode cX7_rememberAll_ 21 = .ok (.astore 5, 2) := by decide +kernel
theorem dX7_rememberAll__23 : decode cX7_rememberAll_ 23 = .ok (.aload_n 0, 1) := by decide +kernel
theorem dX7_rememberAll__24 : decode cX7_rememberAll_ 24 = .ok (.aload 5, 2) := by decide +kernel
theorem dX7_rememberAll__26 : decode cX7_rememberAll_ 26 = .ok (.aload_n 1, 1) := by decide +kernel
theorem dX7_rememberAll__27 : decode cX7_rememberAll_ 27 = .ok (.invokestatic 299, 3) := by decide +kernel
theorem dX7_rememberAll__30 : decode cX7_rememberAll_ 30 = .ok (.invokevirtual 367, 3) := by decide +kernel
theorem dX7_rememberAll__33 : decode cX7_rememberAll_ 33 = .ok (.iinc 4 1, 3) := by decide +kernel
theorem dX7_rememberAll__36 : decode cX7_rememberAll_ 36 = .ok (.goto (-25), 3) := by decide +kernel
theorem dX7_rememberAll__39 : decode cX7_rememberAll_ 39 = .ok (.return_, 1) := by decide +kernel
theorem dX7_letGo_0 : decode cX7_letGo 0 = .ok (.aload_n 0, 1) := by decide +kernel
theorem dX7_letGo_1 : decode cX7_letGo 1 = .ok (.aload_n 1, 1) := by decide +kernel
theorem dX7_letGo_2 : decode cX7_letGo 2 = .ok (.getfield 242, 3) := by decide +kernel
theorem dX7_letGo_5 : decode cX7_letGo 5 = .ok (.invokevirtual 367, 3) := by decide +kernel
theorem dX7_letGo_8 : decode cX7_letGo 8 = .ok (.aload_n 0, 1) := by decide +kernel
theorem dX7_letGo_9 : decode cX7_letGo 9 = .ok (.aload_n 1, 1) := by decide +kernel
theorem dX7_letGo_10 : decode cX7_letGo 10 = .ok (.getfield 214, 3) := by decide +kernel
theorem dX7_letGo_13 : decode cX7_letGo 13 = .ok (.invokevirtual 367, 3) := by decide +kernel
theorem dX7_letGo_16 : decode cX7_letGo 16 = .ok (.aload_n 1, 1) := by decide +kernel
theorem dX7_letGo_17 : decode cX7_letGo 17 = .ok (.aconst_null, 1) := by decide +kernel
theorem dX7_letGo_18 : decode cX7_letGo 18 = .ok (.putfield 242, 3) := by decide +kernel
theorem dX7_letGo_21 : decode cX7_letGo 21 = .ok (.aload_n 1, 1) := by decide +kernel
theorem dX7_letGo_22 : decode cX7_letGo 22 = .ok (.aconst_null, 1) := by decide +kernel
theorem dX7_letGo_23 : decode cX7_letGo 23 = .ok (.putfield 214, 3) := by decide +kernel
theorem dX7_letGo_26 : decode cX7_letGo 26 = .ok (.aload_n 1, 1) := by decide +kernel
theorem dX7_letGo_27 : decode cX7_letGo 27 = .ok (.iconst 1, 1) := by decide +kernel
theorem dX7_letGo_28 : decode cX7_letGo 28 = .ok (.putfield 213, 3) := by decide +kernel
theorem dX7_letGo_31 : decode cX7_letGo 31 = .ok (.return_, 1) := by decide +kernel
theorem dX7_arrival_0 : decode cX7_arrival 0 = .ok (.aload_n 0, 1) := by decide +kernel
theorem dX7_arrival_1 : decode cX7_arrival 1 = .ok (.aload_n 2, 1) := by decide +kernel
theorem dX7_arrival_2 : decode cX7_arrival 2 = .ok (.aload_n 2, 1) := by decide +kernel
theorem dX7_arrival_3 : decode cX7_arrival 3 = .ok (.getfield 136, 3) := by decide +kernel
theorem dX7_arrival_6 : decode cX7_arrival 6 = .ok (.invokevirtual 163, 3) := by decide +kernel
theorem dX7_arrival_9 : decode cX7_arrival 9 = .ok (.iload 4, 2) := by decide +kernel
theorem dX7_arrival_11 : decode cX7_arrival 11 = .ok (.bipush 108, 2) := by decide +kernel
theorem dX7_arrival_13 : decode cX7_arrival 13 = .ok (.if_icmp .ne 7, 3) := by decide +kernel
theorem dX7_arrival_16 : decode cX7_arrival 16 = .ok (.iconst 1, 1) := by decide +kernel
theorem dX7_arrival_17 : decode cX7_arrival 17 = .ok (.goto 4, 3) := by decide +kernel
theorem dX7_arrival_20 : decode cX7_arrival 20 = .ok (.iconst 0, 1) := by decide +kernel
theorem dX7_arrival_21 : decode cX7_arrival 21 = .ok (.istore 5, 2) := by decide +kernel
theorem dX7_arrival_23 : decode cX7_arrival 23 = .ok (.aload_n 0, 1) := by decide +kernel
theorem dX7_arrival_24 : decode cX7_arrival 24 = .ok (.getfield 31, 3) := by decide +kernel
theorem dX7_arrival_27 : decode cX7_arrival 27 = .ok (.iload_n 1, 1) := by decide +kernel
theorem dX7_arrival_28 : decode cX7_arrival 28 = .ok (.iload_n 3, 1) := by decide +kernel
theorem dX7_arrival_29 : decode cX7_arrival 29 = .ok (.iload 5, 2) := by decide +kernel
theorem dX7_arrival_31 : decode cX7_arrival 31 = .ok (.invokevirtual 371, 3) := by decide +kernel
theorem dX7_arrival_34 : decode cX7_arrival 34 = .ok (.istore 6, 2) := by decide +kernel
theorem dX7_arrival_36 : decode cX7_arrival 36 = .ok (.iload 6, 2) := by decide +kernel
theorem dX7_arrival_38 : decode cX7_arrival 38 = .ok (.ifCond .ne 7, 3) := by decide +kernel
theorem dX7_arrival_41 : decode cX7_arrival 41 = .ok (.aconst_null, 1) := by decide +kernel
theorem dX7_arrival_42 : decode cX7_arrival 42 = .ok (.goto 17, 3) := by decide +kernel
theorem dX7_arrival_45 : decode cX7_arrival 45 = .ok (.new 201, 3) := by decide +kernel
theorem dX7_arrival_48 : decode cX7_arrival 48 = .ok (.dup, 1) := by decide +kernel
theorem dX7_arrival_49 : decode cX7_arrival 49 = .ok (.iload_n 1, 1) := by decide +kernel
theorem dX7_arrival_50 : decode cX7_arrival 50 = .ok (.aload_n 2, 1) := by decide +kernel
theorem dX7_arrival_51 : decode cX7_arrival 51 = .ok (.iload_n 3, 1) := by decide +kernel
theorem dX7_arrival_52 : decode cX7_arrival 52 = .ok (.iload 5, 2) := by decide +kernel
theorem dX7_arrival_54 : decode cX7_arrival 54 = .ok (.iload 6, 2) := by decide +kernel
theorem dX7_arrival_56 : decode cX7_arrival 56 = .ok (.invokespecial 375, 3) := by decide +kernel
theorem dX7_arrival_59 : decode cX7_arrival 59 = .ok (.areturn, 1) := by decide +kernel
theorem dX7_openLedger_0 : decode cX7_openLedger 0 = .ok (.aload_n 0, 1) := by decide +kernel
theorem dX7_openLedger_1 : decode cX7_openLedger 1 = .ok (.getfield 31, 3) := by decide +kernel
theorem dX7_openLedger_4 : decode cX7_openLedger 4 = .ok (.aload_n 1, 1) := by decide +kernel
theorem dX7_openLedger_5 : decode cX7_openLedger 5 = .ok (.iload_n 2, 1) := by decide +kernel
theorem dX7_openLedger_6 : decode cX7_openLedger 6 = .ok (.aload_n 1, 1) := by decide +kernel
theorem dX7_openLedger_7 : decode cX7_openLedger 7 = .ok (.getfield 156, 3) := by decide +kernel
theorem dX7_openLedger_10 : decode cX7_openLedger 10 = .ok (.invokevirtual 139, 3) := by decide +kernel
theorem dX7_openLedger_13 : decode cX7_openLedger 13 = .ok (.aload_n 0, 1) := by decide +kernel
theorem dX7_openLedger_14 : decode cX7_openLedger 14 = .ok (.getfield 17, 3) := by decide +kernel
theorem dX7_openLedger_17 : decode cX7_openLedger 17 = .ok (.astore_n 3, 1) := by decide +kernel
theorem dX7_openLedger_18 : decode cX7_openLedger 18 = .ok (.aload_n 3, 1) := by decide +kernel
theorem dX7_openLedger_19 : decode cX7_openLedger 19 = .ok (.arraylength, 1) := by decide +kernel
theorem dX7_openLedger_20 : decode cX7_openLedger 20 = .ok (.istore 4, 2) := by decide +kernel
theorem dX7_openLedger_22 : decode cX7_openLedger 22 = .ok (.iconst 0, 1) := by decide +kernel
theorem dX7_openLedger_23 : decode cX7_openLedger 23 = .ok (.istore 5, 2) := by decide +kernel
theorem dX7_openLedger_25 : decode cX7_openLedger 25 = .ok (.iload 5, 2) := by decide +kernel
theorem dX7_openLedger_27 : decode cX7_openLedger 27 = .ok (.iload 4, 2) := by decide +kernel
theorem dX7_openLedger_29 : decode cX7_openLedger 29 = .ok (.if_icmp .ge 55, 3) := by decide +kernel
theorem dX7_openLedger_32 : decode cX7_openLedger 32 = .ok (.aload_n 3, 1) := by decide +kernel
theorem dX7_openLedger_33 : decode cX7_openLedger 33 = .ok (.iload 5, 2) := by decide +kernel
theorem dX7_openLedger_35 : decode cX7_openLedger 35 = .ok (.aaload, 1) := by decide +kernel
theorem dX7_openLedger_36 : decode cX7_openLedger 36 = .ok (.astore 6, 2) := by decide +kernel
theorem dX7_openLedger_38 : decode cX7_openLedger 38 = .ok (.aload 6, 2) := by decide +kernel
theorem dX7_openLedger_40 : decode cX7_openLedger 40 = .ok (.aload_n 1, 1) := by decide +kernel
theorem dX7_openLedger_41 : decode cX7_openLedger 41 = .ok (.invokestatic 299, 3) := by decide +kernel
theorem dX7_openLedger_44 : decode cX7_openLedger 44 = .ok (.astore 7, 2) := by decide +kernel
theorem dX7_openLedger_46 : decode cX7_openLedger 46 = .ok (.aload 7, 2) := by decide +kernel
theorem dX7_openLedger_48 : decode cX7_openLedger 48 = .ok (.ifnull 30, 3) := by decide +kernel
theorem dX7_openLedger_51 : decode cX7_openLedger 51 = .ok (.aload_n 0, 1) := by decide +kernel
theorem dX7_openLedger_52 : decode cX7_openLedger 52 = .ok (.getfield 31, 3) := by decide +kernel
theorem dX7_openLedger_55 : decode cX7_openLedger 55 = .ok (.aload 7, 2) := by decide +kernel
theorem dX7_openLedger_57 : decode cX7_openLedger 57 = .ok (.getfield 356, 3) := by decide +kernel
theorem dX7_openLedger_60 : decode cX7_openLedger 60 = .ok (.aload 7, 2) := by decide +kernel
theorem dX7_openLedger_62 : decode cX7_openLedger 62 = .ok (.getfield 303, 3) := by decide +kernel
theorem dX7_openLedger_65 : decode cX7_openLedger 65 = .ok (.aload 7, 2) := by decide +kernel
theorem dX7_openLedger_67 : decode cX7_openLedger 67 = .ok (.getfield 311, 3) := by decide +kernel
theorem dX7_openLedger_70 : decode cX7_openLedger 70 = .ok (.aload 7, 2) := by decide +kernel
theorem dX7_openLedger_72 : decode cX7_openLedger 72 = .ok (.getfield 200, 3) := by decide +kernel
theorem dX7_openLedger_75 : decode cX7_openLedger 75 = .ok (.invokevirtual 378, 3) := by decide +kernel
theorem dX7_openLedger_78 : decode cX7_openLedger 78 = .ok (.iinc 5 1, 3) := by decide +kernel
theorem dX7_openLedger_81 : decode cX7_openLedger 81 = .ok (.goto (-56), 3) := by decide +kernel
theorem dX7_openLedger_84 : decode cX7_openLedger 84 = .ok (.return_, 1) := by decide +kernel
theorem dX7_enterInOrder_0 : decode cX7_enterInOrder 0 = .ok (.iconst 0, 1) := by decide +kernel
theorem dX7_enterInOrder_1 : decode cX7_enterInOrder 1 = .ok (.istore_n 3, 1) := by decide +kernel
theorem dX7_enterInOrder_2 : decode cX7_enterInOrder 2 = .ok (.iload_n 3, 1) := by decide +kernel
theorem dX7_enterInOrder_3 : decode cX7_enterInOrder 3 = .ok (.aload_n 0, 1) := by decide +kernel
theorem dX7_enterInOrder_4 : decode cX7_enterInOrder 4 = .ok (.getfield 38, 3) := by decide +kernel
theorem dX7_enterInOrder_7 : decode cX7_enterInOrder 7 = .ok (.getfield 295, 3) := by decide +kernel
theorem dX7_enterInOrder_10 : decode cX7_enterInOrder 10 = .ok (.if_icmp .ge 90, 3) := by decide +kernel
theorem dX7_enterInOrder_13 : decode cX7_enterInOrder 13 = .ok (.aload_n 0, 1) := by decide +kernel
theorem dX7_enterInOrder_14 : decode cX7_enterInOrder 14 = .ok (.aload_n 0, 1) := by decide +kernel
theorem dX7_enterInOrder_15 : decode cX7_enterInOrder 15 = .ok (.getfield 38, 3) := by decide +kernel
theorem dX7_enterInOrder_18 : decode cX7_enterInOrder 18 = .ok (.iload_n 3, 1) := by decide +kernel
theorem dX7_enterInOrder_19 : decode cX7_enterInOrder 19 = .ok (.invokevirtual 298, 3) := by decide +kernel
theorem dX7_enterInOrder_22 : decode cX7_enterInOrder 22 = .ok (.invokevirtual 278, 3) := by decide +kernel
theorem dX7_enterInOrder_25 : decode cX7_enterInOrder 25 = .ok (.aload_n 1, 1) := by decide +kernel
theorem dX7_enterInOrder_26 : decode cX7_enterInOrder 26 = .ok (.invokestatic 299, 3) := by decide +kernel
theorem dX7_enterInOrder_29 : decode cX7_enterInOrder 29 = .ok (.astore 4, 2) := by decide +kernel
theorem dX7_enterInOrder_31 : decode cX7_enterInOrder 31 = .ok (.aload 4, 2) := by decide +kernel
theorem dX7_enterInOrder_33 : decode cX7_enterInOrder 33 = .ok (.ifnull 61, 3) := by decide +kernel
theorem dX7_enterInOrder_36 : decode cX7_enterInOrder 36 = .ok (.aload 4, 2) := by decide +kernel
theorem dX7_enterInOrder_38 : decode cX7_enterInOrder 38 = .ok (.getfield 303, 3) := by decide +kernel
theorem dX7_enterInOrder_41 : decode cX7_enterInOrder 41 = .ok (.iload_n 2, 1) := by decide +kernel
theorem dX7_enterInOrder_42 : decode cX7_enterInOrder 42 = .ok (.iadd, 1) := by decide +kernel
theorem dX7_enterInOrder_43 : decode cX7_enterInOrder 43 = .ok (.istore 5, 2) := by decide +kernel
theorem dX7_enterInOrder_45 : decode cX7_enterInOrder 45 = .ok (.aload_n 0, 1) := by decide +kernel
theorem dX7_enterInOrder_46 : decode cX7_enterInOrder 46 = .ok (.getfield 31, 3) := by decide +kernel
theorem dX7_enterInOrder_49 : decode cX7_enterInOrder 49 = .ok (.aload 4, 2) := by decide +kernel
theorem dX7_enterInOrder_51 : decode cX7_enterInOrder 51 = .ok (.getfield 356, 3) := by decide +kernel
theorem dX7_enterInOrder_54 : decode cX7_enterInOrder 54 = .ok (.iload 5, 2) := by decide +kernel
theorem dX7_enterInOrder_56 : decode cX7_enterInOrder 56 = .ok (.aload 4, 2) := by decide +kernel
theorem dX7_enterInOrder_58 : decode cX7_enterInOrder 58 = .ok (.getfield 311, 3) := by decide +kernel
theorem dX7_enterInOrder_61 : decode cX7_enterInOrder 61 = .ok (.invokevirtual 371, 3) := by decide +kernel
theorem dX7_enterInOrder_64 : decode cX7_enterInOrder 64 = .ok (.istore 6, 2) := by decide +kernel
theorem dX7_enterInOrder_66 : decode cX7_enterInOrder 66 = .ok (.iload 6, 2) := by decide +kernel
theorem dX7_enterInOrder_68 : decode cX7_enterInOrder 68 = .ok (.ifCond .ne 5, 3) := by decide +kernel
theorem dX7_enterInOrder_71 : decode cX7_enterInOrder 71 = .ok (.iconst 0, 1) := by decide +kernel
theorem dX7_enterInOrder_72 : decode cX7_enterInOrder 72 = .ok (.ireturn, 1) := by decide +kernel
theorem dX7_enterInOrder_73 : decode cX7_enterInOrder 73 = .ok (.aload_n 0, 1) := by decide +kernel
theorem dX7_enterInOrder_74 : decode cX7_enterInOrder 74 = .ok (.getfield 31, 3) := by decide +kernel
theorem dX7_enterInOrder_77 : decode cX7_enterInOrder 77 = .ok (.aload 4, 2) := by decide +kernel
theorem dX7_enterInOrder_79 : decode cX7_enterInOrder 79 = .ok (.getfield 356, 3) := by decide +kernel
theorem dX7_enterInOrder_82 : decode cX7_enterInOrder 82 = .ok (.iload 5, 2) := by decide +kernel
theorem dX7_enterInOrder_84 : decode cX7_enterInOrder 84 = .ok (.aload 4, 2) := by decide +kernel
theorem dX7_enterInOrder_86 : decode cX7_enterInOrder 86 = .ok (.getfield 311, 3) := by decide +kernel
theorem dX7_enterInOrder_89 : decode cX7_enterInOrder 89 = .ok (.iload 6, 2) := by decide +kernel
theorem dX7_enterInOrder_91 : decode cX7_enterInOrder 91 = .ok (.invokevirtual 378, 3) := by decide +kernel
theorem dX7_enterInOrder_94 : decode cX7_enterInOrder 94 = .ok (.iinc 3 1, 3) := by decide +kernel
theorem dX7_enterInOrder_97 : decode cX7_enterInOrder 97 = .ok (.goto (-95), 3) := by decide +kernel
theorem dX7_enterInOrder_100 : decode cX7_enterInOrder 100 = .ok (.iconst 1, 1) := by decide +kernel
theorem dX7_enterInOrder_101 : decode cX7_enterInOrder 101 = .ok (.ireturn, 1) := by decide +kernel
theorem dX7_takeNewCodes_0 : decode cX7_takeNewCodes 0 = .ok (.iconst 0, 1) := by decide +kernel
theorem dX7_takeNewCodes_1 : decode cX7_takeNewCodes 1 = .ok (.istore_n 2, 1) := by decide +kernel
theorem dX7_takeNewCodes_2 : decode cX7_takeNewCodes 2 = .ok (.aload_n 0, 1) := by decide +kernel
theorem dX7_takeNewCodes_3 : decode cX7_takeNewCodes 3 = .ok (.getfield 17, 3) := by decide +kernel
theorem dX7_takeNewCodes_6 : decode cX7_takeNewCodes 6 = .ok (.astore_n 3, 1) := by decide +kernel
theorem dX7_takeNewCodes_7 : decode cX7_takeNewCodes 7 = .ok (.aload_n 3, 1) := by decide +kernel
theorem dX7_takeNewCodes_8 : decode cX7_takeNewCodes 8 = .ok (.arraylength, 1) := by decide +kernel
theorem dX7_takeNewCodes_9 : decode cX7_takeNewCodes 9 = .ok (.istore 4, 2) := by decide +kernel
theorem dX7_takeNewCodes_11 : decode cX7_takeNewCodes 11 = .ok (.iconst 0, 1) := by decide +kernel
theorem dX7_takeNewCodes_12 : decode cX7_takeNewCodes 12 = .ok (.istore 5, 2) := by decide +kernel
theorem dX7_takeNewCodes_14 : decode cX7_takeNewCodes 14 = .ok (.iload 5, 2) := by decide +kernel
theorem dX7_takeNewCodes_16 : decode cX7_takeNewCodes 16 = .ok (.iload 4, 2) := by decide +kernel
theorem dX7_takeNewCodes_18 : decode cX7_takeNewCodes 18 = .ok (.if_icmp .ge 74, 3) := by decide +kernel
theorem dX7_takeNewCodes_21 : decode cX7_takeNewCodes 21 = .ok (.aload_n 3, 1) := by decide +kernel
theorem dX7_takeNewCodes_22 : decode cX7_takeNewCodes 22 = .ok (.iload 5, 2) := by decide +kernel
theorem dX7_takeNewCodes_24 : decode cX7_takeNewCodes 24 = .ok (.aaload, 1) := by decide +kernel
theorem dX7_takeNewCodes_25 : decode cX7_takeNewCodes 25 = .ok (.astore 6, 2) := by decide +kernel
theorem dX7_takeNewCodes_27 : decode cX7_takeNewCodes 27 = .ok (.aload 6, 2) := by decide +kernel
theorem dX7_takeNewCodes_29 : decode cX7_takeNewCodes 29 = .ok (.aload_n 1, 1) := by decide +kernel
theorem dX7_takeNewCodes_30 : decode cX7_takeNewCodes 30 = .ok (.invokestatic 299, 3) := by decide +kernel
theorem dX7_takeNewCodes_33 : decode cX7_takeNewCodes 33 = .ok (.astore 7, 2) := by decide +kernel
theorem dX7_takeNewCodes_35 : decode cX7_takeNewCodes 35 = .ok (.aload 7, 2) := by decide +kernel
theorem dX7_takeNewCodes_37 : decode cX7_takeNewCodes 37 = .ok (.ifnull 49, 3) := by decide +kernel
theorem dX7_takeNewCodes_40 : decode cX7_takeNewCodes 40 = .ok (.aload 7, 2) := by decide +kernel
theorem dX7_takeNewCodes_42 : decode cX7_takeNewCodes 42 = .ok (.getfield 200, 3) := by decide +kernel
theorem dX7_takeNewCodes_45 : decode cX7_takeNewCodes 45 = .ok (.aload_n 0, 1) := by decide +kernel
theorem dX7_takeNewCodes_46 : decode cX7_takeNewCodes 46 = .ok (.getfield 31, 3) := by decide +kernel
theorem dX7_takeNewCodes_49 : decode cX7_takeNewCodes 49 = .ok (.aload 7, 2) := by decide +kernel
theorem dX7_takeNewCodes_51 : decode cX7_takeNewCodes 51 = .ok (.getfield 356, 3) := by decide +kernel
theorem dX7_takeNewCodes_54 : decode cX7_takeNewCodes 54 = .ok (.invokevirtual 382, 3) := by decide +kernel
theorem dX7_takeNewCodes_57 : decode cX7_takeNewCodes 57 = .ok (.if_icmp .eq 29, 3) := by decide +kernel
theorem dX7_takeNewCodes_60 : decode cX7_takeNewCodes 60 = .ok (.aload_n 0, 1) := by decide +kernel
theorem dX7_takeNewCodes_61 : decode cX7_takeNewCodes 61 = .ok (.aload 7, 2) := by decide +kernel
theorem dX7_takeNewCodes_63 : decode cX7_takeNewCodes 63 = .ok (.invokevirtual 367, 3) := by decide +kernel
theorem dX7_takeNewCodes_66 : decode cX7_takeNewCodes 66 = .ok (.aload 7, 2) := by decide +kernel
theorem dX7_takeNewCodes_68 : decode cX7_takeNewCodes 68 = .ok (.aload_n 0, 1) := by decide +kernel
theorem dX7_takeNewCodes_69 : decode cX7_takeNewCodes 69 = .ok (.getfield 31, 3) := by decide +kernel
theorem dX7_takeNewCodes_72 : decode cX7_takeNewCodes 72 = .ok (.aload 7, 2) := by decide +kernel
theorem dX7_takeNewCodes_74 : decode cX7_takeNewCodes 74 = .ok (.getfield 356, 3) := by decide +kernel
theorem dX7_takeNewCodes_77 : decode cX7_takeNewCodes 77 = .ok (.invokevirtual 382, 3) := by decide +kernel
theorem dX7_takeNewCodes_80 : decode cX7_takeNewCodes 80 = .ok (.putfield 200, 3) := by decide +kernel
theorem dX7_takeNewCodes_83 : decode cX7_takeNewCodes 83 = .ok (.iinc 2 1, 3) := by decide +kernel
theorem dX7_takeNewCodes_86 : decode cX7_takeNewCodes 86 = .ok (.iinc 5 1, 3) := by decide +kernel
theorem dX7_takeNewCodes_89 : decode cX7_takeNewCodes 89 = .ok (.goto (-75), 3) := by decide +kernel
theorem dX7_takeNewCodes_92 : decode cX7_takeNewCodes 92 = .ok (.iload_n 2, 1) := by decide +kernel
theorem dX7_takeNewCodes_93 : decode cX7_takeNewCodes 93 = .ok (.ireturn, 1) := by decide +kernel
theorem dX7_moveDoors_0 : decode cX7_moveDoors 0 = .ok (.aload_n 0, 1) := by decide +kernel
theorem dX7_moveDoors_1 : decode cX7_moveDoors 1 = .ok (.getfield 17, 3) := by decide +kernel
theorem dX7_moveDoors_4 : decode cX7_moveDoors 4 = .ok (.astore_n 3, 1) := by decide +kernel
theorem dX7_moveDoors_5 : decode cX7_moveDoors 5 = .ok (.aload_n 3, 1) := by decide +kernel
theorem dX7_moveDoors_6 : decode cX7_moveDoors 6 = .ok (.arraylength, 1) := by decide +kernel
theorem dX7_moveDoors_7 : decode cX7_moveDoors 7 = .ok (.istore 4, 2) := by decide +kernel
theorem dX7_moveDoors_9 : decode cX7_moveDoors 9 = .ok (.iconst 0, 1) := by decide +kernel
theorem dX7_moveDoors_10 : decode cX7_moveDoors 10 = .ok (.istore 5, 2) := by decide +kernel
theorem dX7_moveDoors_12 : decode cX7_moveDoors 12 = .ok (.iload 5, 2) := by decide +kernel
theorem dX7_moveDoors_14 : decode cX7_moveDoors 14 = .ok (.iload 4, 2) := by decide +kernel
theorem dX7_moveDoors_16 : decode cX7_moveDoors 16 = .ok (.if_icmp .ge 92, 3) := by decide +kernel
theorem dX7_moveDoors_19 : decode cX7_moveDoors 19 = .ok (.aload_n 3, 1) := by decide +kernel
theorem dX7_moveDoors_20 : decode cX7_moveDoors 20 = .ok (.iload 5, 2) := by decide +kernel
theorem dX7_moveDoors_22 : decode cX7_moveDoors 22 = .ok (.aaload, 1) := by decide +kernel
theorem dX7_moveDoors_23 : decode cX7_moveDoors 23 = .ok (.astore 6, 2) := by decide +kernel
theorem dX7_moveDoors_25 : decode cX7_moveDoors 25 = .ok (.aload 6, 2) := by decide +kernel
theorem dX7_moveDoors_27 : decode cX7_moveDoors 27 = .ok (.aload_n 2, 1) := by decide +kernel
theorem dX7_moveDoors_28 : decode cX7_moveDoors 28 = .ok (.invokestatic 299, 3) := by decide +kernel
theorem dX7_moveDoors_31 : decode cX7_moveDoors 31 = .ok (.astore 7, 2) := by decide +kernel
theorem dX7_moveDoors_33 : decode cX7_moveDoors 33 = .ok (.aload 6, 2) := by decide +kernel
theorem dX7_moveDoors_35 : decode cX7_moveDoors 35 = .ok (.ifnull 67, 3) := by decide +kernel
theorem dX7_moveDoors_38 : decode cX7_moveDoors 38 = .ok (.aload 7, 2) := by decide +kernel
theorem dX7_moveDoors_40 : decode cX7_moveDoors 40 = .ok (.ifnonnull 6, 3) := by decide +kernel
theorem dX7_moveDoors_43 : decode cX7_moveDoors 43 = .ok (.goto 59, 3) := by decide +kernel
theorem dX7_moveDoors_46 : decode cX7_moveDoors 46 = .ok (.aload 6, 2) := by decide +kernel
theorem dX7_moveDoors_48 : decode cX7_moveDoors 48 = .ok (.aload_n 1, 1) := by decide +kernel
theorem dX7_moveDoors_49 : decode cX7_moveDoors 49 = .ok (.invokevirtual 218, 3) := by decide +kernel
theorem dX7_moveDoors_52 : decode cX7_moveDoors 52 = .ok (.ifnull 12, 3) := by decide +kernel
theorem dX7_moveDoors_55 : decode cX7_moveDoors 55 = .ok (.aload 6, 2) := by decide +kernel
theorem dX7_moveDoors_57 : decode cX7_moveDoors 57 = .ok (.aload_n 2, 1) := by decide +kernel
theorem dX7_moveDoors_58 : decode cX7_moveDoors 58 = .ok (.invokevirtual 385, 3) := by decide +kernel
theorem dX7_moveDoors_61 : decode cX7_moveDoors 61 = .ok (.goto 41, 3) := by decide +kernel
theorem dX7_moveDoors_64 : decode cX7_moveDoors 64 = .ok (.aload 7, 2) := by decide +kernel
theorem dX7_moveDoors_66 : decode cX7_moveDoors 66 = .ok (.aload_n 1, 1) := by decide +kernel
theorem dX7_moveDoors_67 : decode cX7_moveDoors 67 = .ok (.putfield 247, 3) := by decide +kernel
theorem dX7_moveDoors_70 : decode cX7_moveDoors 70 = .ok (.aload 7, 2) := by decide +kernel
theorem dX7_moveDoors_72 : decode cX7_moveDoors 72 = .ok (.aload 7, 2) := by decide +kernel
theorem dX7_moveDoors_74 : decode cX7_moveDoors 74 = .ok (.getfield 303, 3) := by decide +kernel
theorem dX7_moveDoors_77 : decode cX7_moveDoors 77 = .ok (.aload_n 1, 1) := by decide +kernel
theorem dX7_moveDoors_78 : decode cX7_moveDoors 78 = .ok (.getfield 136, 3) := by decide +kernel
theorem dX7_moveDoors_81 : decode cX7_moveDoors 81 = .ok (.iadd, 1) := by decide +kernel
theorem dX7_moveDoors_82 : decode cX7_moveDoors 82 = .ok (.putfield 303, 3) := by decide +kernel
theorem dX7_moveDoors_85 : decode cX7_moveDoors 85 = .ok (.aload 7, 2) := by decide +kernel
theorem dX7_moveDoors_87 : decode cX7_moveDoors 87 = .ok (.aload_n 0, 1) := by decide +kernel
theorem dX7_moveDoors_88 : decode cX7_moveDoors 88 = .ok (.getfield 31, 3) := by decide +kernel
theorem dX7_moveDoors_91 : decode cX7_moveDoors 91 = .ok (.aload 7, 2) := by decide +kernel
theorem dX7_moveDoors_93 : decode cX7_moveDoors 93 = .ok (.getfield 356, 3) := by decide +kernel
theorem dX7_moveDoors_96 : decode cX7_moveDoors 96 = .ok (.invokevirtual 382, 3) := by decide +kernel
theorem dX7_moveDoors_99 : decode cX7_moveDoors 99 = .ok (.putfield 200, 3) := by decide +kernel
theorem dX7_moveDoors_102 : decode cX7_moveDoors 102 = .ok (.iinc 5 1, 3) := by decide +kernel
theorem dX7_moveDoors_105 : decode cX7_moveDoors 105 = .ok (.goto (-93), 3) := by decide +kernel
theorem dX7_moveDoors_108 : decode cX7_moveDoors 108 = .ok (.return_, 1) := by decide +kernel
theorem dX7_orderForRenumbering_0 : decode cX7_orderForRenumbering 0 = .ok (.aload_n 0, 1) := by decide +kernel
theorem dX7_orderForRenumbering_1 : decode cX7_orderForRenumbering 1 = .ok (.getfield 38, 3) := by decide +kernel
theorem dX7_orderForRenumbering_4 : decode cX7_orderForRenumbering 4 = .ok (.invokevirtual 388, 3) := by decide +kernel
theorem dX7_orderForRenumbering_7 : decode cX7_orderForRenumbering 7 = .ok (.aload_n 0, 1) := by decide +kernel
theorem dX7_orderForRenumbering_8 : decode cX7_orderForRenumbering 8 = .ok (.getfield 17, 3) := by decide +kernel
theorem dX7_orderForRenumbering_11 : decode cX7_orderForRenumbering 11 = .ok (.astore_n 2, 1) := by decide +kernel
theorem dX7_orderForRenumbering_12 : decode cX7_orderForRenumbering 12 = .ok (.aload_n 2, 1) := by decide +kernel
theorem dX7_orderForRenumbering_13 : decode cX7_orderForRenumbering 13 = .ok (.arraylength, 1) := by decide +kernel
theorem dX7_orderForRenumbering_14 : decode cX7_orderForRenumbering 14 = .ok (.istore_n 3, 1) := by decide +kernel
theorem dX7_orderForRenumbering_15 : decode cX7_orderForRenumbering 15 = .ok (.iconst 0, 1) := by decide +kernel
theorem dX7_orderForRenumbering_16 : decode cX7_orderForRenumbering 16 = .ok (.istore 4, 2) := by decide +kernel
theorem dX7_orderForRenumbering_18 : decode cX7_orderForRenumbering 18 = .ok (.iload 4, 2) := by decide +kernel
theorem dX7_orderForRenumbering_20 : decode cX7_orderForRenumbering 20 = .ok (.iload_n 3, 1) := by decide +kernel
theorem dX7_orderForRenumbering_21 : decode cX7_orderForRenumbering 21 = .ok (.if_icmp .ge 62, 3) := by decide +kernel
theorem dX7_orderForRenumbering_24 : decode cX7_orderForRenumbering 24 = .ok (.aload_n 2, 1) := by decide +kernel
theorem dX7_orderForRenumbering_25 : decode cX7_orderForRenumbering 25 = .ok (.iload 4, 2) := by decide +kernel
theorem dX7_orderForRenumbering_27 : decode cX7_orderForRenumbering 27 = .ok (.aaload, 1) := by decide +kernel
theorem dX7_orderForRenumbering_28 : decode cX7_orderForRenumbering 28 = .ok (.astore 5, 2) := by decide +kernel
theorem dX7_orderForRenumbering_30 : decode cX7_orderForRenumbering 30 = .ok (.aload 5, 2) := by decide +kernel
theorem dX7_orderForRenumbering_32 : decode cX7_orderForRenumbering 32 = .ok (.aload_n 1, 1) := by decide +kernel
theorem dX7_orderForRenumbering_33 : decode cX7_orderForRenumbering 33 = .ok (.invokestatic 299, 3) := by decide +kernel
theorem dX7_orderForRenumbering_36 : decode cX7_orderForRenumbering 36 = .ok (.astore 6, 2) := by decide +kernel
theorem dX7_orderForRenumbering_38 : decode cX7_orderForRenumbering 38 = .ok (.aload 6, 2) := by decide +kernel
theorem dX7_orderForRenumbering_40 : decode cX7_orderForRenumbering 40 = .ok (.ifnull 37, 3) := by decide +kernel
theorem dX7_orderForRenumbering_43 : decode cX7_orderForRenumbering 43 = .ok (.aload_n 0, 1) := by decide +kernel
theorem dX7_orderForRenumbering_44 : decode cX7_orderForRenumbering 44 = .ok (.getfield 38, 3) := by decide +kernel
theorem dX7_orderForRenumbering_47 : decode cX7_orderForRenumbering 47 = .ok (.aload_n 1, 1) := by decide +kernel
theorem dX7_orderForRenumbering_48 : decode cX7_orderForRenumbering 48 = .ok (.getfield 128, 3) := by decide +kernel
theorem dX7_orderForRenumbering_51 : decode cX7_orderForRenumbering 51 = .ok (.bipush 121, 2) := by decide +kernel
theorem dX7_orderForRenumbering_53 : decode cX7_orderForRenumbering 53 = .ok (.if_icmp .ne 7, 3) := by decide +kernel
theorem dX7_orderForRenumbering_56 : decode cX7_orderForRenumbering 56 = .ok (.iconst 0, 1) := by decide +kernel
theorem dX7_orderForRenumbering_57 : decode cX7_orderForRenumbering 57 = .ok (.goto 12, 3) := by decide +kernel
theorem dX7_orderForRenumbering_60 : decode cX7_orderForRenumbering 60 = .ok (.aload_n 1, 1) := by decide +kernel
theorem dX7_orderForRenumbering_61 : decode cX7_orderForRenumbering 61 = .ok (.aload 6, 2) := by decide +kernel
theorem dX7_orderForRenumbering_63 : decode cX7_orderForRenumbering 63 = .ok (.getfield 303, 3) := by decide +kernel
theorem dX7_orderForRenumbering_66 : decode cX7_orderForRenumbering 66 = .ok (.invokevirtual 391, 3) := by decide +kernel
theorem dX7_orderForRenumbering_69 : decode cX7_orderForRenumbering 69 = .ok (.aload 6, 2) := by decide +kernel
theorem dX7_orderForRenumbering_71 : decode cX7_orderForRenumbering 71 = .ok (.getfield 356, 3) := by decide +kernel
theorem dX7_orderForRenumbering_74 : decode cX7_orderForRenumbering 74 = .ok (.invokevirtual 394, 3) := by decide +kernel
theorem dX7_orderForRenumbering_77 : decode cX7_orderForRenumbering 77 = .ok (.iinc 4 1, 3) := by decide +kernel
theorem dX7_orderForRenumbering_80 : decode cX7_orderForRenumbering 80 = .ok (.goto (-62), 3) := by decide +kernel
theorem dX7_orderForRenumbering_83 : decode cX7_orderForRenumbering 83 = .ok (.return_, 1) := by decide +kernel
theorem dX7_orderForJoining_0 : decode cX7_orderForJoining 0 = .ok (.aload_n 0, 1) := by decide +kernel
theorem dX7_orderForJoining_1 : decode cX7_orderForJoining 1 = .ok (.getfield 38, 3) := by decide +kernel
theorem dX7_orderForJoining_4 : decode cX7_orderForJoining 4 = .ok (.invokevirtual 388, 3) := by decide +kernel
theorem dX7_orderForJoining_7 : decode cX7_orderForJoining 7 = .ok (.aload_n 0, 1) := by decide +kernel
theorem dX7_orderForJoining_8 : decode cX7_orderForJoining 8 = .ok (.getfield 17, 3) := by decide +kernel
theorem dX7_orderForJoining_11 : decode cX7_orderForJoining 11 = .ok (.astore_n 3, 1) := by decide +kernel
theorem dX7_orderForJoining_12 : decode cX7_orderForJoining 12 = .ok (.aload_n 3, 1) := by decide +kernel
theorem dX7_orderForJoining_13 : decode cX7_orderForJoining 13 = .ok (.arraylength, 1) := by decide +kernel
theorem dX7_orderForJoining_14 : decode cX7_orderForJoining 14 = .ok (.istore 4, 2) := by decide +kernel
theorem dX7_orderForJoining_16 : decode cX7_orderForJoining 16 = .ok (.iconst 0, 1) := by decide +kernel
theorem dX7_orderForJoining_17 : decode cX7_orderForJoining 17 = .ok (.istore 5, 2) := by decide +kernel
theorem dX7_orderForJoining_19 : decode cX7_orderForJoining 19 = .ok (.iload 5, 2) := by decide +kernel
theorem dX7_orderForJoining_21 : decode cX7_orderForJoining 21 = .ok (.iload 4, 2) := by decide +kernel
theorem dX7_orderForJoining_23 : decode cX7_orderForJoining 23 = .ok (.if_icmp .ge 58, 3) := by decide +kernel
theorem dX7_orderForJoining_26 : decode cX7_orderForJoining 26 = .ok (.aload_n 3, 1) := by decide +kernel
theorem dX7_orderForJoining_27 : decode cX7_orderForJoining 27 = .ok (.iload 5, 2) := by decide +kernel
theorem dX7_orderForJoining_29 : decode cX7_orderForJoining 29 = .ok (.aaload, 1) := by decide +kernel
theorem dX7_orderForJoining_30 : decode cX7_orderForJoining 30 = .ok (.astore 6, 2) := by decide +kernel
theorem dX7_orderForJoining_32 : decode cX7_orderForJoining 32 = .ok (.aload 6, 2) := by decide +kernel
theorem dX7_orderForJoining_34 : decode cX7_orderForJoining 34 = .ok (.aload_n 2, 1) := by decide +kernel
theorem dX7_orderForJoining_35 : decode cX7_orderForJoining 35 = .ok (.invokestatic 299, 3) := by decide +kernel
theorem dX7_orderForJoining_38 : decode cX7_orderForJoining 38 = .ok (.astore 7, 2) := by decide +kernel
theorem dX7_orderForJoining_40 : decode cX7_orderForJoining 40 = .ok (.aload 7, 2) := by decide +kernel
theorem dX7_orderForJoining_42 : decode cX7_orderForJoining 42 = .ok (.ifnull 33, 3) := by decide +kernel
theorem dX7_orderForJoining_45 : decode cX7_orderForJoining 45 = .ok (.aload 6, 2) := by decide +kernel
theorem dX7_orderForJoining_47 : decode cX7_orderForJoining 47 = .ok (.aload_n 1, 1) := by decide +kernel
theorem dX7_orderForJoining_48 : decode cX7_orderForJoining 48 = .ok (.invokestatic 299, 3) := by decide +kernel
theorem dX7_orderForJoining_51 : decode cX7_orderForJoining 51 = .ok (.ifnonnull 24, 3) := by decide +kernel
theorem dX7_orderForJoining_54 : decode cX7_orderForJoining 54 = .ok (.aload_n 0, 1) := by decide +kernel
theorem dX7_orderForJoining_55 : decode cX7_orderForJoining 55 = .ok (.getfield 38, 3) := by decide +kernel
theorem dX7_orderForJoining_58 : decode cX7_orderForJoining 58 = .ok (.aload_n 2, 1) := by decide +kernel
theorem dX7_orderForJoining_59 : decode cX7_orderForJoining 59 = .ok (.aload 7, 2) := by decide +kernel
theorem dX7_orderForJoining_61 : decode cX7_orderForJoining 61 = .ok (.getfield 303, 3) := by decide +kernel
theorem dX7_orderForJoining_64 : decode cX7_orderForJoining 64 = .ok (.invokevirtual 391, 3) := by decide +kernel
theorem dX7_orderForJoining_67 : decode cX7_orderForJoining 67 = .ok (.aload 7, 2) := by decide +kernel
theorem dX7_orderForJoining_69 : decode cX7_orderForJoining 69 = .ok (.getfield 356, 3) := by decide +kernel
theorem dX7_orderForJoining_72 : decode cX7_orderForJoining 72 = .ok (.invokevirtual 394, 3) := by decide +kernel
theorem dX7_orderForJoining_75 : decode cX7_orderForJoining 75 = .ok (.iinc 5 1, 3) := by decide +kernel
theorem dX7_orderForJoining_78 : decode cX7_orderForJoining 78 = .ok (.goto (-59), 3) := by decide +kernel
theorem dX7_orderForJoining_81 : decode cX7_orderForJoining 81 = .ok (.return_, 1) := by decide +kernel
theorem dX7_orderForWalking_0 : decode cX7_orderForWalking 0 = .ok (.aload_n 0, 1) := by decide +kernel
theorem dX7_orderForWalking_1 : decode cX7_orderForWalking 1 = .ok (.getfield 38, 3) := by decide +kernel
theorem dX7_orderForWalking_4 : decode cX7_orderForWalking 4 = .ok (.invokevirtual 388, 3) := by decide +kernel
theorem dX7_orderForWalking_7 : decode cX7_orderForWalking 7 = .ok (.aload_n 0, 1) := by decide +kernel
theorem dX7_orderForWalking_8 : decode cX7_orderForWalking 8 = .ok (.getfield 17, 3) := by decide +kernel
theorem dX7_orderForWalking_11 : decode cX7_orderForWalking 11 = .ok (.astore_n 2, 1) := by decide +kernel
theorem dX7_orderForWalking_12 : decode cX7_orderForWalking 12 = .ok (.aload_n 2, 1) := by decide +kernel
theorem dX7_orderForWalking_13 : decode cX7_orderForWalking 13 = .ok (.arraylength, 1) := by decide +kernel
theorem dX7_orderForWalking_14 : decode cX7_orderForWalking 14 = .ok (.istore_n 3, 1) := by decide +kernel
theorem dX7_orderForWalking_15 : decode cX7_orderForWalking 15 = .ok (.iconst 0, 1) := by decide +kernel
theorem dX7_orderForWalking_16 : decode cX7_orderForWalking 16 = .ok (.istore 4, 2) := by decide +kernel
theorem dX7_orderForWalking_18 : decode cX7_orderForWalking 18 = .ok (.iload 4, 2) := by decide +kernel
theorem dX7_orderForWalking_20 : decode cX7_orderForWalking 20 = .ok (.iload_n 3, 1) := by decide +kernel
theorem dX7_orderForWalking_21 : decode cX7_orderForWalking 21 = .ok (.if_icmp .ge 65, 3) := by decide +kernel
theorem dX7_orderForWalking_24 : decode cX7_orderForWalking 24 = .ok (.aload_n 2, 1) := by decide +kernel
theorem dX7_orderForWalking_25 : decode cX7_orderForWalking 25 = .ok (.iload 4, 2) := by decide +kernel
theorem dX7_orderForWalking_27 : decode cX7_orderForWalking 27 = .ok (.aaload, 1) := by decide +kernel
theorem dX7_orderForWalking_28 : decode cX7_orderForWalking 28 = .ok (.astore 5, 2) := by decide +kernel
theorem dX7_orderForWalking_30 : decode cX7_orderForWalking 30 = .ok (.aload 5, 2) := by decide +kernel
theorem dX7_orderForWalking_32 : decode cX7_orderForWalking 32 = .ok (.aload_n 1, 1) := by decide +kernel
theorem dX7_orderForWalking_33 : decode cX7_orderForWalking 33 = .ok (.invokestatic 299, 3) := by decide +kernel
theorem dX7_orderForWalking_36 : decode cX7_orderForWalking 36 = .ok (.astore 6, 2) := by decide +kernel
theorem dX7_orderForWalking_38 : decode cX7_orderForWalking 38 = .ok (.aload 6, 2) := by decide +kernel
theorem dX7_orderForWalking_40 : decode cX7_orderForWalking 40 = .ok (.ifnull 40, 3) := by decide +kernel
theorem dX7_orderForWalking_43 : decode cX7_orderForWalking 43 = .ok (.aload_n 0, 1) := by decide +kernel
theorem dX7_orderForWalking_44 : decode cX7_orderForWalking 44 = .ok (.getfield 38, 3) := by decide +kernel
theorem dX7_orderForWalking_47 : decode cX7_orderForWalking 47 = .ok (.aload 6, 2) := by decide +kernel
theorem dX7_orderForWalking_49 : decode cX7_orderForWalking 49 = .ok (.getfield 311, 3) := by decide +kernel
theorem dX7_orderForWalking_52 : decode cX7_orderForWalking 52 = .ok (.ifCond .eq 11, 3) := by decide +kernel
theorem dX7_orderForWalking_55 : decode cX7_orderForWalking 55 = .ok (.aload 6, 2) := by decide +kernel
theorem dX7_orderForWalking_57 : decode cX7_orderForWalking 57 = .ok (.getfield 303, 3) := by decide +kernel
theorem dX7_orderForWalking_60 : decode cX7_orderForWalking 60 = .ok (.goto 12, 3) := by decide +kernel
theorem dX7_orderForWalking_63 : decode cX7_orderForWalking 63 = .ok (.sipush 1999, 3) := by decide +kernel
theorem dX7_orderForWalking_66 : decode cX7_orderForWalking 66 = .ok (.aload 6, 2) := by decide +kernel
theorem dX7_orderForWalking_68 : decode cX7_orderForWalking 68 = .ok (.getfield 303, 3) := by decide +kernel
theorem dX7_orderForWalking_71 : decode cX7_orderForWalking 71 = .ok (.isub, 1) := by decide +kernel
theorem dX7_orderForWalking_72 : decode cX7_orderForWalking 72 = .ok (.aload 6, 2) := by decide +kernel
theorem dX7_orderForWalking_74 : decode cX7_orderForWalking 74 = .ok (.getfield 356, 3) := by decide +kernel
theorem dX7_orderForWalking_77 : decode cX7_orderForWalking 77 = .ok (.invokevirtual 394, 3) := by decide +kernel
theorem dX7_orderForWalking_80 : decode cX7_orderForWalking 80 = .ok (.iinc 4 1, 3) := by decide +kernel
theorem dX7_orderForWalking_83 : decode cX7_orderForWalking 83 = .ok (.goto (-65), 3) := by decide +kernel
theorem dX7_orderForWalking_86 : decode cX7_orderForWalking 86 = .ok (.return_, 1) := by decide +kernel
theorem dX7_areAddressesSingle_0 : decode cX7_areAddressesSingle 0 = .ok (.aload_n 0, 1) := by decide +kernel
theorem dX7_areAddressesSingle_1 : decode cX7_areAddressesSingle 1 = .ok (.getfield 11, 3) := by decide +kernel
theorem dX7_areAddressesSingle_4 : decode cX7_areAddressesSingle 4 = .ok (.astore_n 1, 1) := by decide +kernel
theorem dX7_areAddressesSingle_5 : decode cX7_areAddressesSingle 5 = .ok (.aload_n 1, 1) := by decide +kernel
theorem dX7_areAddressesSingle_6 : decode cX7_areAddressesSingle 6 = .ok (.arraylength, 1) := by decide +kernel
theorem dX7_areAddressesSingle_7 : decode cX7_areAddressesSingle 7 = .ok (.istore_n 2, 1) := by decide +kernel
theorem dX7_areAddressesSingle_8 : decode cX7_areAddressesSingle 8 = .ok (.iconst 0, 1) := by decide +kernel
theorem dX7_areAddressesSingle_9 : decode cX7_areAddressesSingle 9 = .ok (.istore_n 3, 1) := by decide +kernel
theorem dX7_areAddressesSingle_10 : decode cX7_areAddressesSingle 10 = .ok (.iload_n 3, 1) := by decide +kernel
theorem dX7_areAddressesSingle_11 : decode cX7_areAddressesSingle 11 = .ok (.iload_n 2, 1) := by decide +kernel
theorem dX7_areAddressesSingle_12 : decode cX7_areAddressesSingle 12 = .ok (.if_icmp .ge 45, 3) := by decide +kernel
theorem dX7_areAddressesSingle_15 : decode cX7_areAddressesSingle 15 = .ok (.aload_n 1, 1) := by decide +kernel
theorem dX7_areAddressesSingle_16 : decode cX7_areAddressesSingle 16 = .ok (.iload_n 3, 1) := by decide +kernel
theorem dX7_areAddressesSingle_17 : decode cX7_areAddressesSingle 17 = .ok (.aaload, 1) := by decide +kernel
theorem dX7_areAddressesSingle_18 : decode cX7_areAddressesSingle 18 = .ok (.astore 4, 2) := by decide +kernel
theorem dX7_areAddressesSingle_20 : decode cX7_areAddressesSingle 20 = .ok (.aload 4, 2) := by decide +kernel
theorem dX7_areAddressesSingle_22 : decode cX7_areAddressesSingle 22 = .ok (.invokestatic 179, 3) := by decide +kernel
theorem dX7_areAddressesSingle_25 : decode cX7_areAddressesSingle 25 = .ok (.ifCond .eq 26, 3) := by decide +kernel
theorem dX7_areAddressesSingle_28 : decode cX7_areAddressesSingle 28 = .ok (.aload_n 0, 1) := by decide +kernel
theorem dX7_areAddressesSingle_29 : decode cX7_areAddressesSingle 29 = .ok (.aload 4, 2) := by decide +kernel
theorem dX7_areAddressesSingle_31 : decode cX7_areAddressesSingle 31 = .ok (.aload 4, 2) := by decide +kernel
theorem dX7_areAddressesSingle_33 : decode cX7_areAddressesSingle 33 = .ok (.getfield 136, 3) := by decide +kernel
theorem dX7_areAddressesSingle_36 : decode cX7_areAddressesSingle 36 = .ok (.invokevirtual 163, 3) := by decide +kernel
theorem dX7_areAddressesSingle_39 : decode cX7_areAddressesSingle 39 = .ok (.aload_n 0, 1) := by decide +kernel
theorem dX7_areAddressesSingle_40 : decode cX7_areAddressesSingle 40 = .ok (.getfield 31, 3) := by decide +kernel
theorem dX7_areAddressesSingle_43 : decode cX7_areAddressesSingle 43 = .ok (.invokevirtual 398, 3) := by decide +kernel
theorem dX7_areAddressesSingle_46 : decode cX7_areAddressesSingle 46 = .ok (.ifCond .eq 5, 3) := by decide +kernel
theorem dX7_areAddressesSingle_49 : decode cX7_areAddressesSingle 49 = .ok (.iconst 0, 1) := by decide +kernel
theorem dX7_areAddressesSingle_50 : decode cX7_areAddressesSingle 50 = .ok (.ireturn, 1) := by decide +kernel
theorem dX7_areAddressesSingle_51 : decode cX7_areAddressesSingle 51 = .ok (.iinc 3 1, 3) := by decide +kernel
theorem dX7_areAddressesSingle_54 : decode cX7_areAddressesSingle 54 = .ok (.goto (-44), 3) := by decide +kernel
theorem dX7_areAddressesSingle_57 : decode cX7_areAddressesSingle 57 = .ok (.iconst 1, 1) := by decide +kernel
theorem dX7_areAddressesSingle_58 : decode cX7_areAddressesSingle 58 = .ok (.ireturn, 1) := by decide +kernel
theorem dX7_areAddressesThere_0 : decode cX7_areAddressesThere 0 = .ok (.aload_n 0, 1) := by decide +kernel
theorem dX7_areAddressesThere_1 : decode cX7_areAddressesThere 1 = .ok (.getfield 17, 3) := by decide +kernel
theorem dX7_areAddressesThere_4 : decode cX7_areAddressesThere 4 = .ok (.astore_n 1, 1) := by decide +kernel
theorem dX7_areAddressesThere_5 : decode cX7_areAddressesThere 5 = .ok (.aload_n 1, 1) := by decide +kernel
theorem dX7_areAddressesThere_6 : decode cX7_areAddressesThere 6 = .ok (.arraylength, 1) := by decide +kernel
theorem dX7_areAddressesThere_7 : decode cX7_areAddressesThere 7 = .ok (.istore_n 2, 1) := by decide +kernel
theorem dX7_areAddressesThere_8 : decode cX7_areAddressesThere 8 = .ok (.iconst 0, 1) := by decide +kernel
theorem dX7_areAddressesThere_9 : decode cX7_areAddressesThere 9 = .ok (.istore_n 3, 1) := by decide +kernel
theorem dX7_areAddressesThere_10 : decode cX7_areAddressesThere 10 = .ok (.iload_n 3, 1) := by decide +kernel
theorem dX7_areAddressesThere_11 : decode cX7_areAddressesThere 11 = .ok (.iload_n 2, 1) := by decide +kernel
theorem dX7_areAddressesThere_12 : decode cX7_areAddressesThere 12 = .ok (.if_icmp .ge 37, 3) := by decide +kernel
theorem dX7_areAddressesThere_15 : decode cX7_areAddressesThere 15 = .ok (.aload_n 1, 1) := by decide +kernel
theorem dX7_areAddressesThere_16 : decode cX7_areAddressesThere 16 = .ok (.iload_n 3, 1) := by decide +kernel
theorem dX7_areAddressesThere_17 : decode cX7_areAddressesThere 17 = .ok (.aaload, 1) := by decide +kernel
theorem dX7_areAddressesThere_18 : decode cX7_areAddressesThere 18 = .ok (.astore 4, 2) := by decide +kernel
theorem dX7_areAddressesThere_20 : decode cX7_areAddressesThere 20 = .ok (.aload 4, 2) := by decide +kernel
theorem dX7_areAddressesThere_22 : decode cX7_areAddressesThere 22 = .ok (.ifnull 21, 3) := by decide +kernel
theorem dX7_areAddressesThere_25 : decode cX7_areAddressesThere 25 = .ok (.aload 4, 2) := by decide +kernel
theorem dX7_areAddressesThere_27 : decode cX7_areAddressesThere 27 = .ok (.getfield 213, 3) := by decide +kernel
theorem dX7_areAddressesThere_30 : decode cX7_areAddressesThere 30 = .ok (.ifCond .ne 13, 3) := by decide +kernel
theorem dX7_areAddressesThere_33 : decode cX7_areAddressesThere 33 = .ok (.aload 4, 2) := by decide +kernel
theorem dX7_areAddressesThere_35 : decode cX7_areAddressesThere 35 = .ok (.invokevirtual 401, 3) := by decide +kernel
theorem dX7_areAddressesThere_38 : decode cX7_areAddressesThere 38 = .ok (.ifCond .ne 5, 3) := by decide +kernel
theorem dX7_areAddressesThere_41 : decode cX7_areAddressesThere 41 = .ok (.iconst 0, 1) := by decide +kernel
theorem dX7_areAddressesThere_42 : decode cX7_areAddressesThere 42 = .ok (.ireturn, 1) := by decide +kernel
theorem dX7_areAddressesThere_43 : decode cX7_areAddressesThere 43 = .ok (.iinc 3 1, 3) := by decide +kernel
theorem dX7_areAddressesThere_46 : decode cX7_areAddressesThere 46 = .ok (.goto (-36), 3) := by decide +kernel
theorem dX7_areAddressesThere_49 : decode cX7_areAddressesThere 49 = .ok (.iconst 1, 1) := by decide +kernel
theorem dX7_areAddressesThere_50 : decode cX7_areAddressesThere 50 = .ok (.ireturn, 1) := by decide +kernel
theorem dX7_areNamesSingle_0 : decode cX7_areNamesSingle 0 = .ok (.aload_n 0, 1) := by decide +kernel
theorem dX7_areNamesSingle_1 : decode cX7_areNamesSingle 1 = .ok (.getfield 11, 3) := by decide +kernel
theorem dX7_areNamesSingle_4 : decode cX7_areNamesSingle 4 = .ok (.astore_n 1, 1) := by decide +kernel
theorem dX7_areNamesSingle_5 : decode cX7_areNamesSingle 5 = .ok (.aload_n 1, 1) := by decide +kernel
theorem dX7_areNamesSingle_6 : decode cX7_areNamesSingle 6 = .ok (.arraylength, 1) := by decide +kernel
theorem dX7_areNamesSingle_7 : decode cX7_areNamesSingle 7 = .ok (.istore_n 2, 1) := by decide +kernel
theorem dX7_areNamesSingle_8 : decode cX7_areNamesSingle 8 = .ok (.iconst 0, 1) := by decide +kernel
theorem dX7_areNamesSingle_9 : decode cX7_areNamesSingle 9 = .ok (.istore_n 3, 1) := by decide +kernel
theorem dX7_areNamesSingle_10 : decode cX7_areNamesSingle 10 = .ok (.iload_n 3, 1) := by decide +kernel
theorem dX7_areNamesSingle_11 : decode cX7_areNamesSingle 11 = .ok (.iload_n 2, 1) := by decide +kernel
theorem dX7_areNamesSingle_12 : decode cX7_areNamesSingle 12 = .ok (.if_icmp .ge 47, 3) := by decide +kernel
theorem dX7_areNamesSingle_15 : decode cX7_areNamesSingle 15 = .ok (.aload_n 1, 1) := by decide +kernel
theorem dX7_areNamesSingle_16 : decode cX7_areNamesSingle 16 = .ok (.iload_n 3, 1) := by decide +kernel
theorem dX7_areNamesSingle_17 : decode cX7_areNamesSingle 17 = .ok (.aaload, 1) := by decide +kernel
theorem dX7_areNamesSingle_18 : decode cX7_areNamesSingle 18 = .ok (.astore 4, 2) := by decide +kernel
theorem dX7_areNamesSingle_20 : decode cX7_areNamesSingle 20 = .ok (.aload 4, 2) := by decide +kernel
theorem dX7_areNamesSingle_22 : decode cX7_areNamesSingle 22 = .ok (.invokestatic 179, 3) := by decide +kernel
theorem dX7_areNamesSingle_25 : decode cX7_areNamesSingle 25 = .ok (.ifCond .eq 28, 3) := by decide +kernel
theorem dX7_areNamesSingle_28 : decode cX7_areNamesSingle 28 = .ok (.aload 4, 2) := by decide +kernel
theorem dX7_areNamesSingle_30 : decode cX7_areNamesSingle 30 = .ok (.getfield 91, 3) := by decide +kernel
theorem dX7_areNamesSingle_33 : decode cX7_areNamesSingle 33 = .ok (.aload 4, 2) := by decide +kernel
theorem dX7_areNamesSingle_35 : decode cX7_areNamesSingle 35 = .ok (.getfield 103, 3) := by decide +kernel
theorem dX7_areNamesSingle_38 : decode cX7_areNamesSingle 38 = .ok (.lcmp, 1) := by decide +kernel
theorem dX7_areNamesSingle_39 : decode cX7_areNamesSingle 39 = .ok (.ifCond .eq 12, 3) := by decide +kernel
theorem dX7_areNamesSingle_42 : decode cX7_areNamesSingle 42 = .ok (.aload_n 0, 1) := by decide +kernel
theorem dX7_areNamesSingle_43 : decode cX7_areNamesSingle 43 = .ok (.aload 4, 2) := by decide +kernel
theorem dX7_areNamesSingle_45 : decode cX7_areNamesSingle 45 = .ok (.invokevirtual 404, 3) := by decide +kernel
theorem dX7_areNamesSingle_48 : decode cX7_areNamesSingle 48 = .ok (.ifCond .eq 5, 3) := by decide +kernel
theorem dX7_areNamesSingle_51 : decode cX7_areNamesSingle 51 = .ok (.iconst 0, 1) := by decide +kernel
theorem dX7_areNamesSingle_52 : decode cX7_areNamesSingle 52 = .ok (.ireturn, 1) := by decide +kernel
theorem dX7_areNamesSingle_53 : decode cX7_areNamesSingle 53 = .ok (.iinc 3 1, 3) := by decide +kernel
theorem dX7_areNamesSingle_56 : decode cX7_areNamesSingle 56 = .ok (.goto (-46), 3) := by decide +kernel
theorem dX7_areNamesSingle_59 : decode cX7_areNamesSingle 59 = .ok (.iconst 1, 1) := by decide +kernel
theorem dX7_areNamesSingle_60 : decode cX7_areNamesSingle 60 = .ok (.ireturn, 1) := by decide +kernel
theorem dX7_isTakenByOther_0 : decode cX7_isTakenByOther 0 = .ok (.aload_n 0, 1) := by decide +kernel
theorem dX7_isTakenByOther_1 : decode cX7_isTakenByOther 1 = .ok (.getfield 11, 3) := by decide +kernel
theorem dX7_isTakenByOther_4 : decode cX7_isTakenByOther 4 = .ok (.astore_n 2, 1) := by decide +kernel
theorem dX7_isTakenByOther_5 : decode cX7_isTakenByOther 5 = .ok (.aload_n 2, 1) := by decide +kernel
theorem dX7_isTakenByOther_6 : decode cX7_isTakenByOther 6 = .ok (.arraylength, 1) := by decide +kernel
theorem dX7_isTakenByOther_7 : decode cX7_isTakenByOther 7 = .ok (.istore_n 3, 1) := by decide +kernel
theorem dX7_isTakenByOther_8 : decode cX7_isTakenByOther 8 = .ok (.iconst 0, 1) := by decide +kernel
theorem dX7_isTakenByOther_9 : decode cX7_isTakenByOther 9 = .ok (.istore 4, 2) := by decide +kernel
theorem dX7_isTakenByOther_11 : decode cX7_isTakenByOther 11 = .ok (.iload 4, 2) := by decide +kernel
theorem dX7_isTakenByOther_13 : decode cX7_isTakenByOther 13 = .ok (.iload_n 3, 1) := by decide +kernel
theorem dX7_isTakenByOther_14 : decode cX7_isTakenByOther 14 = .ok (.if_icmp .ge 55, 3) := by decide +kernel
theorem dX7_isTakenByOther_17 : decode cX7_isTakenByOther 17 = .ok (.aload_n 2, 1) := by decide +kernel
theorem dX7_isTakenByOther_18 : decode cX7_isTakenByOther 18 = .ok (.iload 4, 2) := by decide +kernel
theorem dX7_isTakenByOther_20 : decode cX7_isTakenByOther 20 = .ok (.aaload, 1) := by decide +kernel
theorem dX7_isTakenByOther_21 : decode cX7_isTakenByOther 21 = .ok (.astore 5, 2) := by decide +kernel
theorem dX7_isTakenByOther_23 : decode cX7_isTakenByOther 23 = .ok (.aload 5, 2) := by decide +kernel
theorem dX7_isTakenByOther_25 : decode cX7_isTakenByOther 25 = .ok (.invokestatic 179, 3) := by decide +kernel
theorem dX7_isTakenByOther_28 : decode cX7_isTakenByOther 28 = .ok (.ifCond .eq 35, 3) := by decide +kernel
theorem dX7_isTakenByOther_31 : decode cX7_isTakenByOther 31 = .ok (.aload 5, 2) := by decide +kernel
theorem dX7_isTakenByOther_33 : decode cX7_isTakenByOther 33 = .ok (.aload_n 1, 1) := by decide +kernel
theorem dX7_isTakenByOther_34 : decode cX7_isTakenByOther 34 = .ok (.if_acmp .eq 29, 3) := by decide +kernel
theorem dX7_isTakenByOther_37 : decode cX7_isTakenByOther 37 = .ok (.aload 5, 2) := by decide +kernel
theorem dX7_isTakenByOther_39 : decode cX7_isTakenByOther 39 = .ok (.aload_n 1, 1) := by decide +kernel
theorem dX7_isTakenByOther_40 : decode cX7_isTakenByOther 40 = .ok (.getfield 91, 3) := by decide +kernel
theorem dX7_isTakenByOther_43 : decode cX7_isTakenByOther 43 = .ok (.invokevirtual 349, 3) := by decide +kernel
theorem dX7_isTakenByOther_46 : decode cX7_isTakenByOther 46 = .ok (.ifCond .ne 15, 3) := by decide +kernel
theorem dX7_isTakenByOther_49 : decode cX7_isTakenByOther 49 = .ok (.aload 5, 2) := by decide +kernel
theorem dX7_isTakenByOther_51 : decode cX7_isTakenByOther 51 = .ok (.aload_n 1, 1) := by decide +kernel
theorem dX7_isTakenByOther_52 : decode cX7_isTakenByOther 52 = .ok (.getfield 103, 3) := by decide +kernel
theorem dX7_isTakenByOther_55 : decode cX7_isTakenByOther 55 = .ok (.invokevirtual 349, 3) := by decide +kernel
theorem dX7_isTakenByOther_58 : decode cX7_isTakenByOther 58 = .ok (.ifCond .eq 5, 3) := by decide +kernel
theorem dX7_isTakenByOther_61 : decode cX7_isTakenByOther 61 = .ok (.iconst 1, 1) := by decide +kernel
theorem dX7_isTakenByOther_62 : decode cX7_isTakenByOther 62 = .ok (.ireturn, 1) := by decide +kernel
theorem dX7_isTakenByOther_63 : decode cX7_isTakenByOther 63 = .ok (.iinc 4 1, 3) := by decide +kernel
theorem dX7_isTakenByOther_66 : decode cX7_isTakenByOther 66 = .ok (.goto (-55), 3) := by decide +kernel
theorem dX7_isTakenByOther_69 : decode cX7_isTakenByOther 69 = .ok (.iconst 0, 1) := by decide +kernel
theorem dX7_isTakenByOther_70 : decode cX7_isTakenByOther 70 = .ok (.ireturn, 1) := by decide +kernel
theorem dX7_areLeadsEnding_0 : decode cX7_areLeadsEnding 0 = .ok (.aload_n 0, 1) := by decide +kernel
theorem dX7_areLeadsEnding_1 : decode cX7_areLeadsEnding 1 = .ok (.getfield 17, 3) := by decide +kernel
theorem dX7_areLeadsEnding_4 : decode cX7_areLeadsEnding 4 = .ok (.astore_n 1, 1) := by decide +kernel
theorem dX7_areLeadsEnding_5 : decode cX7_areLeadsEnding 5 = .ok (.aload_n 1, 1) := by decide +kernel
theorem dX7_areLeadsEnding_6 : decode cX7_areLeadsEnding 6 = .ok (.arraylength, 1) := by decide +kernel
theorem dX7_areLeadsEnding_7 : decode cX7_areLeadsEnding 7 = .ok (.istore_n 2, 1) := by decide +kernel
theorem dX7_areLeadsEnding_8 : decode cX7_areLeadsEnding 8 = .ok (.iconst 0, 1) := by decide +kernel
theorem dX7_areLeadsEnding_9 : decode cX7_areLeadsEnding 9 = .ok (.istore_n 3, 1) := by decide +kernel
theorem dX7_areLeadsEnding_10 : decode cX7_areLeadsEnding 10 = .ok (.iload_n 3, 1) := by decide +kernel
theorem dX7_areLeadsEnding_11 : decode cX7_areLeadsEnding 11 = .ok (.iload_n 2, 1) := by decide +kernel
theorem dX7_areLeadsEnding_12 : decode cX7_areLeadsEnding 12 = .ok (.if_icmp .ge 36, 3) := by decide +kernel
theorem dX7_areLeadsEnding_15 : decode cX7_areLeadsEnding 15 = .ok (.aload_n 1, 1) := by decide +kernel
theorem dX7_areLeadsEnding_16 : decode cX7_areLeadsEnding 16 = .ok (.iload_n 3, 1) := by decide +kernel
theorem dX7_areLeadsEnding_17 : decode cX7_areLeadsEnding 17 = .ok (.aaload, 1) := by decide +kernel
theorem dX7_areLeadsEnding_18 : decode cX7_areLeadsEnding 18 = .ok (.astore 4, 2) := by decide +kernel
theorem dX7_areLeadsEnding_20 : decode cX7_areLeadsEnding 20 = .ok (.aload 4, 2) := by decide +kernel
theorem dX7_areLeadsEnding_22 : decode cX7_areLeadsEnding 22 = .ok (.invokestatic 281, 3) := by decide +kernel
theorem dX7_areLeadsEnding_25 : decode cX7_areLeadsEnding 25 = .ok (.astore 5, 2) := by decide +kernel
theorem dX7_areLeadsEnding_27 : decode cX7_areLeadsEnding 27 = .ok (.aload 5, 2) := by decide +kernel
theorem dX7_areLeadsEnding_29 : decode cX7_areLeadsEnding 29 = .ok (.ifnull 13, 3) := by decide +kernel
theorem dX7_areLeadsEnding_32 : decode cX7_areLeadsEnding 32 = .ok (.aload 5, 2) := by decide +kernel
theorem dX7_areLeadsEnding_34 : decode cX7_areLeadsEnding 34 = .ok (.getfield 213, 3) := by decide +kernel
theorem dX7_areLeadsEnding_37 : decode cX7_areLeadsEnding 37 = .ok (.ifCond .eq 5, 3) := by decide +kernel
theorem dX7_areLeadsEnding_40 : decode cX7_areLeadsEnding 40 = .ok (.iconst 0, 1) := by decide +kernel
theorem dX7_areLeadsEnding_41 : decode cX7_areLeadsEnding 41 = .ok (.ireturn, 1) := by decide +kernel
theorem dX7_areLeadsEnding_42 : decode cX7_areLeadsEnding 42 = .ok (.iinc 3 1, 3) := by decide +kernel
theorem dX7_areLeadsEnding_45 : decode cX7_areLeadsEnding 45 = .ok (.goto (-35), 3) := by decide +kernel
theorem dX7_areLeadsEnding_48 : decode cX7_areLeadsEnding 48 = .ok (.iconst 1, 1) := by decide +kernel
theorem dX7_areLeadsEnding_49 : decode cX7_areLeadsEnding 49 = .ok (.ireturn, 1) := by decide +kernel
theorem dX8_init_0 : decode cX8_init 0 = .ok (.aload_n 0, 1) := by decide +kernel
theorem dX8_init_1 : decode cX8_init 1 = .ok (.invokespecial 1, 3) := by decide +kernel
theorem dX8_init_4 : decode cX8_init 4 = .ok (.aload_n 0, 1) := by decide +kernel
theorem dX8_init_5 : decode cX8_init 5 = .ok (.bipush 12, 2) := by decide +kernel
theorem dX8_init_7 : decode cX8_init 7 = .ok (.newarray .long, 2) := by decide +kernel
theorem dX8_init_9 : decode cX8_init 9 = .ok (.putfield 7, 3) := by decide +kernel
theorem dX8_init_12 : decode cX8_init 12 = .ok (.aload_n 0, 1) := by decide +kernel
theorem dX8_init_13 : decode cX8_init 13 = .ok (.bipush 12, 2) := by decide +kernel
theorem dX8_init_15 : decode cX8_init 15 = .ok (.newarray .long, 2) := by decide +kernel
theorem dX8_init_17 : decode cX8_init 17 = .ok (.putfield 13, 3) := by decide +kernel
theorem dX8_init_20 : decode cX8_init 20 = .ok (.aload_n 0, 1) := by decide +kernel
theorem dX8_init_21 : decode cX8_init 21 = .ok (.bipush 12, 2) := by decide +kernel
theorem dX8_init_23 : decode cX8_init 23 = .ok (.newarray .int, 2) := by decide +kernel
theorem dX8_init_25 : decode cX8_init 25 = .ok (.putfield 16, 3) := by decide +kernel
theorem dX8_init_28 : decode cX8_init 28 = .ok (.aload_n 0, 1) := by decide +kernel
theorem dX8_init_29 : decode cX8_init 29 = .ok (.bipush 12, 2) := by decide +kernel
theorem dX8_init_31 : decode cX8_init 31 = .ok (.newarray .char, 2) := by decide +kernel
theorem dX8_init_33 : decode cX8_init 33 = .ok (.putfield 20, 3) := by decide +kernel
theorem dX8_init_36 : decode cX8_init 36 = .ok (.aload_n 0, 1) := by decide +kernel
theorem dX8_init_37 : decode cX8_init 37 = .ok (.bipush 12, 2) := by decide +kernel
theorem dX8_init_39 : decode cX8_init 39 = .ok (.newarray .boolean, 2) := by decide +kernel
theorem dX8_init_41 : decode cX8_init 41 = .ok (.putfield 24, 3) := by decide +kernel
theorem dX8_init_44 : decode cX8_init 44 = .ok (.aload_n 0, 1) := by decide +kernel
theorem dX8_init_45 : decode cX8_init 45 = .ok (.bipush 12, 2) := by decide +kernel
theorem dX8_init_47 : decode cX8_init 47 = .ok (.newarray .boolean, 2) := by decide +kernel
theorem dX8_init_49 : decode cX8_init 49 = .ok (.putfield 28, 3) := by decide +kernel
theorem dX8_init_52 : decode cX8_init 52 = .ok (.aload_n 0, 1) := by decide +kernel
theorem dX8_init_53 : decode cX8_init 53 = .ok (.bipush 12, 2) := by decide +kernel
theorem dX8_init_55 : decode cX8_init 55 = .ok (.newarray .int, 2) := by decide +kernel
theorem dX8_init_57 : decode cX8_init 57 = .ok (.putfield 31, 3) := by decide +kernel
theorem dX8_init_60 : decode cX8_init 60 = .ok (.aload_n 0, 1) := by decide +kernel
theorem dX8_init_61 : decode cX8_init 61 = .ok (.bipush 80, 2) := by decide +kernel
theorem dX8_init_63 : decode cX8_init 63 = .ok (.newarray .int, 2) := by decide +kernel
theorem dX8_init_65 : decode cX8_init 65 = .ok (.putfield 34, 3) := by decide +kernel
theorem dX8_init_68 : decode cX8_init 68 = .ok (.aload_n 0, 1) := by decide +kernel
theorem dX8_init_69 : decode cX8_init 69 = .ok (.bipush 80, 2) := by decide +kernel
theorem dX8_init_71 : decode cX8_init 71 = .ok (.newarray .int, 2) := by decide +kernel
theorem dX8_init_73 : decode cX8_init 73 = .ok (.putfield 37, 3) := by decide +kernel
theorem dX8_init_76 : decode cX8_init 76 = .ok (.aload_n 0, 1) := by decide +kernel
theorem dX8_init_77 : decode cX8_init 77 = .ok (.bipush 80, 2) := by decide +kernel
theorem dX8_init_79 : decode cX8_init 79 = .ok (.newarray .char, 2) := by decide +kernel
theorem dX8_init_81 : decode cX8_init 81 = .ok (.putfield 40, 3) := by decide +kernel
theorem dX8_init_84 : decode cX8_init 84 = .ok (.aload_n 0, 1) := by decide +kernel
theorem dX8_init_85 : decode cX8_init 85 = .ok (.bipush 80, 2) := by decide +kernel
theorem dX8_init_87 : decode cX8_init 87 = .ok (.newarray .int, 2) := by decide +kernel
theorem dX8_init_89 : decode cX8_init 89 = .ok (.putfield 43, 3) := by decide +kernel
theorem dX8_init_92 : decode cX8_init 92 = .ok (.aload_n 0, 1) := by decide +kernel
theorem dX8_init_93 : decode cX8_init 93 = .ok (.bipush 40, 2) := by decide +kernel
theorem dX8_init_95 : decode cX8_init 95 = .ok (.newarray .boolean, 2) := by decide +kernel
theorem dX8_init_97 : decode cX8_init 97 = .ok (.putfield 46, 3) := by decide +kernel
theorem dX8_init_100 : decode cX8_init 100 = .ok (.aload_n 0, 1) := by decide +kernel
theorem dX8_init_101 : decode cX8_init 101 = .ok (.bipush 40, 2) := by decide +kernel
theorem dX8_init_103 : decode cX8_init 103 = .ok (.newarray .int, 2) := by decide +kernel
theorem dX8_init_105 : decode cX8_init 105 = .ok (.putfield 49, 3) := by decide +kernel
theorem dX8_init_108 : decode cX8_init 108 = .ok (.aload_n 0, 1) := by decide +kernel
theorem dX8_init_109 : decode cX8_init 109 = .ok (.sipush 200, 3) := by decide +kernel
theorem dX8_init_112 : decode cX8_init 112 = .ok (.newarray .long, 2) := by decide +kernel
theorem dX8_init_114 : decode cX8_init 114 = .ok (.putfield 52, 3) := by decide +kernel
theorem dX8_init_117 : decode cX8_init 117 = .ok (.aload_n 0, 1) := by decide +kernel
theorem dX8_init_118 : decode cX8_init 118 = .ok (.sipush 200, 3) := by decide +kernel
theorem dX8_init_121 : decode cX8_init 121 = .ok (.newarray .int, 2) := by decide +kernel
theorem dX8_init_123 : decode cX8_init 123 = .ok (.putfield 55, 3) := by decide +kernel
theorem dX8_init_126 : decode cX8_init 126 = .ok (.aload_n 0, 1) := by decide +kernel
theorem dX8_init_127 : decode cX8_init 127 = .ok (.sipush 200, 3) := by decide +kernel
theorem dX8_init_130 : decode cX8_init 130 = .ok (.newarray .int, 2) := by decide +kernel
theorem dX8_init_132 : decode cX8_init 132 = .ok (.putfield 58, 3) := by decide +kernel
theorem dX8_init_135 : decode cX8_init 135 = .ok (.aload_n 0, 1) := by decide +kernel
theorem dX8_init_136 : decode cX8_init 136 = .ok (.sipush 200, 3) := by decide +kernel
theorem dX8_init_139 : decode cX8_init 139 = .ok (.newarray .int, 2) := by decide +kernel
theorem dX8_init_141 : decode cX8_init 141 = .ok (.putfield 61, 3) := by decide +kernel
theorem dX8_init_144 : decode cX8_init 144 = .ok (.aload_n 0, 1) := by decide +kernel
theorem dX8_init_145 : decode cX8_init 145 = .ok (.bipush 80, 2) := by decide +kernel
theorem dX8_init_147 : decode cX8_init 147 = .ok (.newarray .int, 2) := by decide +kernel
theorem dX8_init_149 : decode cX8_init 149 = .ok (.putfield 64, 3) := by decide +kernel
theorem dX8_init_152 : decode cX8_init 152 = .ok (.aload_n 0, 1) := by decide +kernel
theorem dX8_init_153 : decode cX8_init 153 = .ok (.bipush 80, 2) := by decide +kernel
theorem dX8_init_155 : decode cX8_init 155 = .ok (.newarray .int, 2) := by decide +kernel
theorem dX8_init_157 : decode cX8_init 157 = .ok (.putfield 67, 3) := by decide +kernel
theorem dX8_init_160 : decode cX8_init 160 = .ok (.aload_n 0, 1) := by decide +kernel
theorem dX8_init_161 : decode cX8_init 161 = .ok (.bipush 80, 2) := by decide +kernel
theorem dX8_init_163 : decode cX8_init 163 = .ok (.newarray .char, 2) := by decide +kernel
theorem dX8_init_165 : decode cX8_init 165 = .ok (.putfield 70, 3) := by decide +kernel
theorem dX8_init_168 : decode cX8_init 168 = .ok (.aload_n 0, 1) := by decide +kernel
theorem dX8_init_169 : decode cX8_init 169 = .ok (.bipush 80, 2) := by decide +kernel
theorem dX8_init_171 : decode cX8_init 171 = .ok (.newarray .int, 2) := by decide +kernel
theorem dX8_init_173 : decode cX8_init 173 = .ok (.putfield 73, 3) := by decide +kernel
theorem dX8_init_176 : decode cX8_init 176 = .ok (.aload_n 0, 1) := by decide +kernel
theorem dX8_init_177 : decode cX8_init 177 = .ok (.bipush 40, 2) := by decide +kernel
theorem dX8_init_179 : decode cX8_init 179 = .ok (.newarray .int, 2) := by decide +kernel
theorem dX8_init_181 : decode cX8_init 181 = .ok (.putfield 76, 3) := by decide +kernel
theorem dX8_init_184 : decode cX8_init 184 = .ok (.iconst 0, 1) := by decide +kernel
theorem dX8_init_185 : decode cX8_init 185 = .ok (.istore_n 1, 1) := by decide +kernel
theorem dX8_init_186 : decode cX8_init 186 = .ok (.iload_n 1, 1) := by decide +kernel
theorem dX8_init_187 : decode cX8_init 187 = .ok (.bipush 80, 2) := by decide +kernel
theorem dX8_init_189 : decode cX8_init 189 = .ok (.if_icmp .ge 23, 3) := by decide +kernel
theorem dX8_init_192 : decode cX8_init 192 = .ok (.aload_n 0, 1) := by decide +kernel
theorem dX8_init_193 : decode cX8_init 193 = .ok (.getfield 34, 3) := by decide +kernel
theorem dX8_init_196 : decode cX8_init 196 = .ok (.iload_n 1, 1) := by decide +kernel
theorem dX8_init_197 : decode cX8_init 197 = .ok (.iconst (-1), 1) := by decide +kernel
theorem dX8_init_198 : decode cX8_init 198 = .ok (.iastore, 1) := by decide +kernel
theorem dX8_init_199 : decode cX8_init 199 = .ok (.aload_n 0, 1) := by decide +kernel
theorem dX8_init_200 : decode cX8_init 200 = .ok (.getfield 43, 3) := by decide +kernel
theorem dX8_init_203 : decode cX8_init 203 = .ok (.iload_n 1, 1) := by decide +kernel
theorem dX8_init_204 : decode cX8_init 204 = .ok (.iconst (-1), 1) := by decide +kernel
theorem dX8_init_205 : decode cX8_init 205 = .ok (.iastore, 1) := by decide +kernel
theorem dX8_init_206 : decode cX8_init 206 = .ok (.iinc 1 1, 3) := by decide +kernel
theorem dX8_init_209 : decode cX8_init 209 = .ok (.goto (-23), 3) := by decide +kernel
theorem dX8_init_212 : decode cX8_init 212 = .ok (.return_, 1) := by decide +kernel
theorem dX8_thrown_0 : decode cX8_thrown 0 = .ok (.aload_n 0, 1) := by decide +kernel
theorem dX8_thrown_1 : decode cX8_thrown 1 = .ok (.getfield 79, 3) := by decide +kernel
theorem dX8_thrown_4 : decode cX8_thrown 4 = .ok (.ireturn, 1) := by decide +kernel
theorem dX8_no_0 : decode cX8_no 0 = .ok (.aload_n 0, 1) := by decide +kernel
theorem dX8_no_1 : decode cX8_no 1 = .ok (.iload_n 1, 1) := by decide +kernel
theorem dX8_no_2 : decode cX8_no 2 = .ok (.ifCond .eq 7, 3) := by decide +kernel
theorem dX8_no_5 : decode cX8_no 5 = .ok (.iconst 0, 1) := by decide +kernel
theorem dX8_no_6 : decode cX8_no 6 = .ok (.goto 4, 3) := by decide +kernel
theorem dX8_no_9 : decode cX8_no 9 = .ok (.iload_n 2, 1) := by decide +kernel
theorem dX8_no_10 : decode cX8_no 10 = .ok (.putfield 79, 3) := by decide +kernel
theorem dX8_no_13 : decode cX8_no 13 = .ok (.iload_n 1, 1) := by decide +kernel
theorem dX8_no_14 : decode cX8_no 14 = .ok (.ifCond .ne 7, 3) := by decide +kernel
theorem dX8_no_17 : decode cX8_no 17 = .ok (.iconst 1, 1) := by decide +kernel
theorem dX8_no_18 : decode cX8_no 18 = .ok (.goto 4, 3) := by decide +kernel
theorem dX8_no_21 : decode cX8_no 21 = .ok (.iconst 0, 1) := by decide +kernel
theorem dX8_no_22 : decode cX8_no 22 = .ok (.ireturn, 1) := by decide +kernel
theorem dX8_isBetween_0 : decode cX8_isBetween 0 = .ok (.iload_n 0, 1) := by decide +kernel
theorem dX8_isBetween_1 : decode cX8_isBetween 1 = .ok (.iload_n 1, 1) := by decide +kernel
theorem dX8_isBetween_2 : decode cX8_isBetween 2 = .ok (.if_icmp .lt 12, 3) := by decide +kernel
theorem dX8_isBetween_5 : decode cX8_isBetween 5 = .ok (.iload_n 0, 1) := by decide +kernel
theorem dX8_isBetween_6 : decode cX8_isBetween 6 = .ok (.iload_n 2, 1) := by decide +kernel
theorem dX8_isBetween_7 : decode cX8_isBetween 7 = .ok (.if_icmp .gt 7, 3) := by decide +kernel
theorem dX8_isBetween_10 : decode cX8_isBetween 10 = .ok (.iconst 1, 1) := by decide +kernel
theorem dX8_isBetween_11 : decode cX8_isBetween 11 = .ok (.goto 4, 3) := by decide +kernel
theorem dX8_isBetween_14 : decode cX8_isBetween 14 = .ok (.iconst 0, 1) := by decide +kernel
theorem dX8_isBetween_15 : decode cX8_isBetween 15 = .ok (.ireturn, 1) := by decide +kernel
theorem dX8_isStreet_0 : decode cX8_isStreet 0 = .ok (.iload_n 1, 1) := by decide +kernel
theorem dX8_isStreet_1 : decode cX8_isStreet 1 = .ok (.iconst 0, 1) := by decide +kernel
theorem dX8_isStreet_2 : decode cX8_isStreet 2 = .ok (.aload_n 0, 1) := by decide +kernel
theorem dX8_isStreet_3 : decode cX8_isStreet 3 = .ok (.getfield 83, 3) := by decide +kernel
theorem dX8_isStreet_6 : decode cX8_isStreet 6 = .ok (.iconst 1, 1) := by decide +kernel
theorem dX8_isStreet_7 : decode cX8_isStreet 7 = .ok (.isub, 1) := by decide +kernel
theorem dX8_isStreet_8 : decode cX8_isStreet 8 = .ok (.invokestatic 86, 3) := by decide +kernel
theorem dX8_isStreet_11 : decode cX8_isStreet 11 = .ok (.ifCond .eq 16, 3) := by decide +kernel
theorem dX8_isStreet_14 : decode cX8_isStreet 14 = .ok (.aload_n 0, 1) := by decide +kernel
theorem dX8_isStreet_15 : decode cX8_isStreet 15 = .ok (.getfield 28, 3) := by decide +kernel
theorem dX8_isStreet_18 : decode cX8_isStreet 18 = .ok (.iload_n 1, 1) := by decide +kernel
theorem dX8_isStreet_19 : decode cX8_isStreet 19 = .ok (.baload, 1) := by decide +kernel
theorem dX8_isStreet_20 : decode cX8_isStreet 20 = .ok (.ifCond .ne 7, 3) := by decide +kernel
theorem dX8_isStreet_23 : decode cX8_isStreet 23 = .ok (.iconst 1, 1) := by decide +kernel
theorem dX8_isStreet_24 : decode cX8_isStreet 24 = .ok (.goto 4, 3) := by decide +kernel
theorem dX8_isStreet_27 : decode cX8_isStreet 27 = .ok (.iconst 0, 1) := by decide +kernel
theorem dX8_isStreet_28 : decode cX8_isStreet 28 = .ok (.ireturn, 1) := by decide +kernel
theorem dX8_isDoor_0 : decode cX8_isDoor 0 = .ok (.iload_n 1, 1) := by decide +kernel
theorem dX8_isDoor_1 : decode cX8_isDoor 1 = .ok (.iconst 0, 1) := by decide +kernel
theorem dX8_isDoor_2 : decode cX8_isDoor 2 = .ok (.aload_n 0, 1) := by decide +kernel
theorem dX8_isDoor_3 : decode cX8_isDoor 3 = .ok (.getfield 90, 3) := by decide +kernel
theorem dX8_isDoor_6 : decode cX8_isDoor 6 = .ok (.iconst 1, 1) := by decide +kernel
theorem dX8_isDoor_7 : decode cX8_isDoor 7 = .ok (.isub, 1) := by decide +kernel
theorem dX8_isDoor_8 : decode cX8_isDoor 8 = .ok (.invokestatic 86, 3) := by decide +kernel
theorem dX8_isDoor_11 : decode cX8_isDoor 11 = .ok (.ireturn, 1) := by decide +kernel
theorem dX8_isWay_0 : decode cX8_isWay 0 = .ok (.iload_n 0, 1) := by decide +kernel
theorem dX8_isWay_1 : decode cX8_isWay 1 = .ok (.bipush 115, 2) := by decide +kernel
theorem dX8_isWay_3 : decode cX8_isWay 3 = .ok (.if_icmp .eq 15, 3) := by decide +kernel
theorem dX8_isWay_6 : decode cX8_isWay 6 = .ok (.iload_n 0, 1) := by decide +kernel
theorem dX8_isWay_7 : decode cX8_isWay 7 = .ok (.bipush 109, 2) := by decide +kernel
theorem dX8_isWay_9 : decode cX8_isWay 9 = .ok (.if_icmp .eq 9, 3) := by decide +kernel
theorem dX8_isWay_12 : decode cX8_isWay 12 = .ok (.iload_n 0, 1) := by decide +kernel
theorem dX8_isWay_13 : decode cX8_isWay 13 = .ok (.bipush 121, 2) := by decide +kernel
theorem dX8_isWay_15 : decode cX8_isWay 15 = .ok (.if_icmp .ne 7, 3) := by decide +kernel
theorem dX8_isWay_18 : decode cX8_isWay 18 = .ok (.iconst 1, 1) := by decide +kernel
theorem dX8_isWay_19 : decode cX8_isWay 19 = .ok (.goto 4, 3) := by decide +kernel
theorem dX8_isWay_22 : decode cX8_isWay 22 = .ok (.iconst 0, 1) := by decide +kernel
theorem dX8_isWay_23 : decode cX8_isWay 23 = .ok (.ireturn, 1) := by decide +kernel
theorem dX8_type_0 : decode cX8_type 0 = .ok (.aload_n 0, 1) := by decide +kernel
theorem dX8_type_1 : decode cX8_type 1 = .ok (.iload_n 1, 1) := by decide +kernel
theorem dX8_type_2 : decode cX8_type 2 = .ok (.bipush 97, 2) := by decide +kernel
theorem dX8_type_4 : decode cX8_type 4 = .ok (.if_icmp .lt 13, 3) := by decide +kernel
theorem dX8_type_7 : decode cX8_type 7 = .ok (.iload_n 1, 1) := by decide +kernel
theorem dX8_type_8 : decode cX8_type 8 = .ok (.bipush 122, 2) := by decide +kernel
theorem dX8_type_10 : decode cX8_type 10 = .ok (.if_icmp .gt 7, 3) := by decide +kernel
theorem dX8_type_13 : decode cX8_type 13 = .ok (.iconst 1, 1) := by decide +kernel
theorem dX8_type_14 : decode cX8_type 14 = .ok (.goto 4, 3) := by decide +kernel
theorem dX8_type_17 : decode cX8_type 17 = .ok (.iconst 0, 1) := by decide +kernel
theorem dX8_type_18 : decode cX8_type 18 = .ok (.iconst 1, 1) := by decide +kernel
theorem dX8_type_19 : decode cX8_type 19 = .ok (.invokevirtual 93, 3) := by decide +kernel
theorem dX8_type_22 : decode cX8_type 22 = .ok (.ifCond .ne 25, 3) := by decide +kernel
theorem dX8_type_25 : decode cX8_type 25 = .ok (.aload_n 0, 1) := by decide +kernel
theorem dX8_type_26 : decode cX8_type 26 = .ok (.aload_n 0, 1) := by decide +kernel
theorem dX8_type_27 : decode cX8_type 27 = .ok (.getfield 97, 3) := by decide +kernel
theorem dX8_type_30 : decode cX8_type 30 = .ok (.bipush 7, 2) := by decide +kernel
theorem dX8_type_32 : decode cX8_type 32 = .ok (.if_icmp .ge 7, 3) := by decide +kernel
theorem dX8_type_35 : decode cX8_type 35 = .ok (.iconst 1, 1) := by decide +kernel
theorem dX8_type_36 : decode cX8_type 36 = .ok (.goto 4, 3) := by decide +kernel
theorem dX8_type_39 : decode cX8_type 39 = .ok (.iconst 0, 1) := by decide +kernel
theorem dX8_type_40 : decode cX8_type 40 = .ok (.iconst 2, 1) := by decide +kernel
theorem dX8_type_41 : decode cX8_type 41 = .ok (.invokevirtual 93, 3) := by decide +kernel
theorem dX8_type_44 : decode cX8_type 44 = .ok (.ifCond .eq 5, 3) := by decide +kernel
theorem dX8_type_47 : decode cX8_type 47 = .ok (.iconst 0, 1) := by decide +kernel
theorem dX8_type_48 : decode cX8_type 48 = .ok (.ireturn, 1) := by decide +kernel
theorem dX8_type_49 : decode cX8_type 49 = .ok (.aload_n 0, 1) := by decide +kernel
theorem dX8_type_50 : decode cX8_type 50 = .ok (.ldc2_w 100, 3) := by decide +kernel
theorem dX8_type_53 : decode cX8_type 53 = .ok (.aload_n 0, 1) := by decide +kernel
theorem dX8_type_54 : decode cX8_type 54 = .ok (.getfield 102, 3) := by decide +kernel
theorem dX8_type_57 : decode cX8_type 57 = .ok (.lmul, 1) := by decide +kernel
theorem dX8_type_58 : decode cX8_type 58 = .ok (.iload_n 1, 1) := by decide +kernel
theorem dX8_type_59 : decode cX8_type 59 = .ok (.bipush 97, 2) := by decide +kernel
theorem dX8_type_61 : decode cX8_type 61 = .ok (.isub, 1) := by decide +kernel
theorem dX8_type_62 : decode cX8_type 62 = .ok (.iconst 1, 1) := by decide +kernel
theorem dX8_type_63 : decode cX8_type 63 = .ok (.iadd, 1) := by decide +kernel
theorem dX8_type_64 : decode cX8_type 64 = .ok (.i2l, 1) := by decide +kernel
theorem dX8_type_65 : decode cX8_type 65 = .ok (.ladd, 1) := by decide +kernel
theorem dX8_type_66 : decode cX8_type 66 = .ok (.putfield 102, 3) := by decide +kernel
theorem dX8_type_69 : decode cX8_type 69 = .ok (.aload_n 0, 1) := by decide +kernel
theorem dX8_type_70 : decode cX8_type 70 = .ok (.dup, 1) := by decide +kernel
theorem dX8_type_71 : decode cX8_type 71 = .ok (.getfield 97, 3) := by decide +kernel
theorem dX8_type_74 : decode cX8_type 74 = .ok (.iconst 1, 1) := by decide +kernel
theorem dX8_type_75 : decode cX8_type 75 = .ok (.iadd, 1) := by decide +kernel
theorem dX8_type_76 : decode cX8_type 76 = .ok (.putfield 97, 3) := by decide +kernel
theorem dX8_type_79 : decode cX8_type 79 = .ok (.aload_n 0, 1) := by decide +kernel
theorem dX8_type_80 : decode cX8_type 80 = .ok (.getfield 97, 3) := by decide +kernel
theorem dX8_type_83 : decode cX8_type 83 = .ok (.ireturn, 1) := by decide +kernel
theorem dX8_wipe_0 : decode cX8_wipe 0 = .ok (.aload_n 0, 1) := by decide +kernel
theorem dX8_wipe_1 : decode cX8_wipe 1 = .ok (.getfield 97, 3) := by decide +kernel
theorem dX8_wipe_4 : decode cX8_wipe 4 = .ok (.istore_n 1, 1) := by decide +kernel
theorem dX8_wipe_5 : decode cX8_wipe 5 = .ok (.aload_n 0, 1) := by decide +kernel
theorem dX8_wipe_6 : decode cX8_wipe 6 = .ok (.lconst 0, 1) := by decide +kernel
theorem dX8_wipe_7 : decode cX8_wipe 7 = .ok (.putfield 102, 3) := by decide +kernel
theorem dX8_wipe_10 : decode cX8_wipe 10 = .ok (.aload_n 0, 1) := by decide +kernel
theorem dX8_wipe_11 : decode cX8_wipe 11 = .ok (.iconst 0, 1) := by decide +kernel
theorem dX8_wipe_12 : decode cX8_wipe 12 = .ok (.putfield 97, 3) := by decide +kernel
theorem dX8_wipe_15 : decode cX8_wipe 15 = .ok (.iload_n 1, 1) := by decide +kernel
theorem dX8_wipe_16 : decode cX8_wipe 16 = .ok (.ireturn, 1) := by decide +kernel
theorem dX8_isUsed_0 : decode cX8_isUsed 0 = .ok (.iconst 0, 1) := by decide +kernel
theorem dX8_isUsed_1 : decode cX8_isUsed 1 = .ok (.istore_n 3, 1) := by decide +kernel
theorem dX8_isUsed_2 : decode cX8_isUsed 2 = .ok (.iconst 0, 1) := by decide +kernel
theorem dX8_isUsed_3 : decode cX8_isUsed 3 = .ok (.istore 4, 2) := by decide +kernel
theorem dX8_isUsed_5 : decode cX8_isUsed 5 = .ok (.iload 4, 2) := by decide +kernel
theorem dX8_isUsed_7 : decode cX8_isUsed 7 = .ok (.aload_n 0, 1) := by decide +kernel
theorem dX8_isUsed_8 : decode cX8_isUsed 8 = .ok (.getfield 83, 3) := by decide +kernel
theorem dX8_isUsed_11 : decode cX8_isUsed 11 = .ok (.if_icmp .ge 57, 3) := by decide +kernel
theorem dX8_isUsed_14 : decode cX8_isUsed 14 = .ok (.iload_n 3, 1) := by decide +kernel
theorem dX8_isUsed_15 : decode cX8_isUsed 15 = .ok (.aload_n 0, 1) := by decide +kernel
theorem dX8_isUsed_16 : decode cX8_isUsed 16 = .ok (.getfield 28, 3) := by decide +kernel
theorem dX8_isUsed_19 : decode cX8_isUsed 19 = .ok (.iload 4, 2) := by decide +kernel
theorem dX8_isUsed_21 : decode cX8_isUsed 21 = .ok (.baload, 1) := by decide +kernel
theorem dX8_isUsed_22 : decode cX8_isUsed 22 = .ok (.ifCond .ne 37, 3) := by decide +kernel
theorem dX8_isUsed_25 : decode cX8_isUsed 25 = .ok (.lload_n 1, 1) := by decide +kernel
theorem dX8_isUsed_26 : decode cX8_isUsed 26 = .ok (.lconst 0, 1) := by decide +kernel
theorem dX8_isUsed_27 : decode cX8_isUsed 27 = .ok (.lcmp, 1) := by decide +kernel
theorem dX8_isUsed_28 : decode cX8_isUsed 28 = .ok (.ifCond .eq 31, 3) := by decide +kernel
theorem dX8_isUsed_31 : decode cX8_isUsed 31 = .ok (.aload_n 0, 1) := by decide +kernel
theorem dX8_isUsed_32 : decode cX8_isUsed 32 = .ok (.getfield 7, 3) := by decide +kernel
theorem dX8_isUsed_35 : decode cX8_isUsed 35 = .ok (.iload 4, 2) := by decide +kernel
theorem dX8_isUsed_37 : decode cX8_isUsed 37 = .ok (.laload, 1) := by decide +kernel
theorem dX8_isUsed_38 : decode cX8_isUsed 38 = .ok (.lload_n 1, 1) := by decide +kernel
theorem dX8_isUsed_39 : decode cX8_isUsed 39 = .ok (.lcmp, 1) := by decide +kernel
theorem dX8_isUsed_40 : decode cX8_isUsed 40 = .ok (.ifCond .eq 15, 3) := by decide +kernel
theorem dX8_isUsed_43 : decode cX8_isUsed 43 = .ok (.aload_n 0, 1) := by decide +kernel
theorem dX8_isUsed_44 : decode cX8_isUsed 44 = .ok (.getfield 13, 3) := by decide +kernel
theorem dX8_isUsed_47 : decode cX8_isUsed 47 = .ok (.iload 4, 2) := by decide +kernel
theorem dX8_isUsed_49 : decode cX8_isUsed 49 = .ok (.laload, 1) := by decide +kernel
theorem dX8_isUsed_50 : decode cX8_isUsed 50 = .ok (.lload_n 1, 1) := by decide +kernel
theorem dX8_isUsed_51 : decode cX8_isUsed 51 = .ok (.lcmp, 1) := by decide +kernel
theorem dX8_isUsed_52 : decode cX8_isUsed 52 = .ok (.ifCond .ne 7, 3) := by decide +kernel
theorem dX8_isUsed_55 : decode cX8_isUsed 55 = .ok (.iconst 1, 1) := by decide +kernel
theorem dX8_isUsed_56 : decode cX8_isUsed 56 = .ok (.goto 4, 3) := by decide +kernel
theorem dX8_isUsed_59 : decode cX8_isUsed 59 = .ok (.iconst 0, 1) := by decide +kernel
theorem dX8_isUsed_60 : decode cX8_isUsed 60 = .ok (.ior, 1) := by decide +kernel
theorem dX8_isUsed_61 : decode cX8_isUsed 61 = .ok (.istore_n 3, 1) := by decide +kernel
theorem dX8_isUsed_62 : decode cX8_isUsed 62 = .ok (.iinc 4 1, 3) := by decide +kernel
theorem dX8_isUsed_65 : decode cX8_isUsed 65 = .ok (.goto (-60), 3) := by decide +kernel
theorem dX8_isUsed_68 : decode cX8_isUsed 68 = .ok (.iload_n 3, 1) := by decide +kernel
theorem dX8_isUsed_69 : decode cX8_isUsed 69 = .ok (.ireturn, 1) := by decide +kernel
theorem dX8_street_0 : decode cX8_street 0 = .ok (.aload_n 0, 1) := by decide +kernel
theorem dX8_street_1 : decode cX8_street 1 = .ok (.iload_n 2, 1) := by decide +kernel
theorem dX8_street_2 : decode cX8_street 2 = .ok (.invokestatic 106, 3) := by decide +kernel
theorem dX8_street_5 : decode cX8_street 5 = .ok (.ifCond .eq 19, 3) := by decide +kernel
theorem dX8_street_8 : decode cX8_street 8 = .ok (.iload_n 1, 1) := by decide +kernel
theorem dX8_street_9 : decode cX8_street 9 = .ok (.bipush 10, 2) := by decide +kernel
theorem dX8_street_11 : decode cX8_street 11 = .ok (.sipush 999, 3) := by decide +kernel
theorem dX8_street_14 : decode cX8_street 14 = .ok (.invokestatic 86, 3) := by decide +kernel
theorem dX8_street_17 : decode cX8_street 17 = .ok (.ifCond .eq 7, 3) := by decide +kernel
theorem dX8_street_20 : decode cX8_street 20 = .ok (.iconst 1, 1) := by decide +kernel
theorem dX8_street_21 : decode cX8_street 21 = .ok (.goto 4, 3) := by decide +kernel
theorem dX8_street_24 : decode cX8_street 24 = .ok (.iconst 0, 1) := by decide +kernel
theorem dX8_street_25 : decode cX8_street 25 = .ok (.iconst 1, 1) := by decide +kernel
theorem dX8_street_26 : decode cX8_street 26 = .ok (.invokevirtual 93, 3) := by decide +kernel
theorem dX8_street_29 : decode cX8_street 29 = .ok (.ifCond .ne 56, 3) := by decide +kernel
theorem dX8_street_32 : decode cX8_street 32 = .ok (.aload_n 0, 1) := by decide +kernel
theorem dX8_street_33 : decode cX8_street 33 = .ok (.aload_n 0, 1) := by decide +kernel
theorem dX8_street_34 : decode cX8_street 34 = .ok (.getfield 97, 3) := by decide +kernel
theorem dX8_street_37 : decode cX8_street 37 = .ok (.ifCond .le 18, 3) := by decide +kernel
theorem dX8_street_40 : decode cX8_street 40 = .ok (.aload_n 0, 1) := by decide +kernel
theorem dX8_street_41 : decode cX8_street 41 = .ok (.aload_n 0, 1) := by decide +kernel
theorem dX8_street_42 : decode cX8_street 42 = .ok (.getfield 102, 3) := by decide +kernel
theorem dX8_street_45 : decode cX8_street 45 = .ok (.invokevirtual 110, 3) := by decide +kernel
theorem dX8_street_48 : decode cX8_street 48 = .ok (.ifCond .ne 7, 3) := by decide +kernel
theorem dX8_street_51 : decode cX8_street 51 = .ok (.iconst 1, 1) := by decide +kernel
theorem dX8_street_52 : decode cX8_street 52 = .ok (.goto 4, 3) := by decide +kernel
theorem dX8_street_55 : decode cX8_street 55 = .ok (.iconst 0, 1) := by decide +kernel
theorem dX8_street_56 : decode cX8_street 56 = .ok (.iconst 2, 1) := by decide +kernel
theorem dX8_street_57 : decode cX8_street 57 = .ok (.invokevirtual 93, 3) := by decide +kernel
theorem dX8_street_60 : decode cX8_street 60 = .ok (.ifCond .ne 25, 3) := by decide +kernel
theorem dX8_street_63 : decode cX8_street 63 = .ok (.aload_n 0, 1) := by decide +kernel
theorem dX8_street_64 : decode cX8_street 64 = .ok (.aload_n 0, 1) := by decide +kernel
theorem dX8_street_65 : decode cX8_street 65 = .ok (.getfield 83, 3) := by decide +kernel
theorem dX8_street_68 : decode cX8_street 68 = .ok (.bipush 12, 2) := by decide +kernel
theorem dX8_street_70 : decode cX8_street 70 = .ok (.if_icmp .ge 7, 3) := by decide +kernel
theorem dX8_street_73 : decode cX8_street 73 = .ok (.iconst 1, 1) := by decide +kernel
theorem dX8_street_74 : decode cX8_street 74 = .ok (.goto 4, 3) := by decide +kernel
theorem dX8_street_77 : decode cX8_street 77 = .ok (.iconst 0, 1) := by decide +kernel
theorem dX8_street_78 : decode cX8_street 78 = .ok (.iconst 3, 1) := by decide +kernel
theorem dX8_street_79 : decode cX8_street 79 = .ok (.invokevirtual 93, 3) := by decide +kernel
theorem dX8_street_82 : decode cX8_street 82 = .ok (.ifCond .eq 5, 3) := by decide +kernel
theorem dX8_street_85 : decode cX8_street 85 = .ok (.iconst 0, 1) := by decide +kernel
theorem dX8_street_86 : decode cX8_street 86 = .ok (.ireturn, 1) := by decide +kernel
theorem dX8_street_87 : decode cX8_street 87 = .ok (.aload_n 0, 1) := by decide +kernel
theorem dX8_street_88 : decode cX8_street 88 = .ok (.getfield 7, 3) := by decide +kernel
theorem dX8_street_91 : decode cX8_street 91 = .ok (.aload_n 0, 1) := by decide +kernel
theorem dX8_street_92 : decode cX8_street 92 = .ok (.getfield 83, 3) := by decide +kernel
theorem dX8_street_95 : decode cX8_street 95 = .ok (.aload_n 0, 1) := by decide +kernel
theorem dX8_street_96 : decode cX8_street 96 = .ok (.getfield 102, 3) := by decide +kernel
theorem dX8_street_99 : decode cX8_street 99 = .ok (.lastore, 1) := by decide +kernel
theorem dX8_street_100 : decode cX8_street 100 = .ok (.aload_n 0, 1) := by decide +kernel
theorem dX8_street_101 : decode cX8_street 101 = .ok (.getfield 16, 3) := by decide +kernel
theorem dX8_street_104 : decode cX8_street 104 = .ok (.aload_n 0, 1) := by decide +kernel
theorem dX8_street_105 : decode cX8_street 105 = .ok (.getfield 83, 3) := by decide +kernel
theorem dX8_street_108 : decode cX8_street 108 = .ok (.iload_n 1, 1) := by decide +kernel
theorem dX8_street_109 : decode cX8_street 109 = .ok (.iastore, 1) := by decide +kernel
theorem dX8_street_110 : decode cX8_street 110 = .ok (.aload_n 0, 1) := by decide +kernel
theorem dX8_street_111 : decode cX8_street 111 = .ok (.getfield 20, 3) := by decide +kernel
theorem dX8_street_114 : decode cX8_street 114 = .ok (.aload_n 0, 1) := by decide +kernel
theorem dX8_street_115 : decode cX8_street 115 = .ok (.getfield 83, 3) := by decide +kernel
theorem dX8_street_118 : decode cX8_street 118 = .ok (.iload_n 2, 1) := by decide +kernel
theorem dX8_street_119 : decode cX8_street 119 = .ok (.castore, 1) := by decide +kernel
theorem dX8_street_120 : decode cX8_street 120 = .ok (.aload_n 0, 1) := by decide +kernel
theorem dX8_street_121 : decode cX8_street 121 = .ok (.getfield 24, 3) := by decide +kernel
theorem dX8_street_124 : decode cX8_street 124 = .ok (.aload_n 0, 1) := by decide +kernel
theorem dX8_street_125 : decode cX8_street 125 = .ok (.getfield 83, 3) := by decide +kernel
theorem dX8_street_128 : decode cX8_street 128 = .ok (.iload_n 3, 1) := by decide +kernel
theorem dX8_street_129 : decode cX8_street 129 = .ok (.bastore, 1) := by decide +kernel
theorem dX8_street_130 : decode cX8_street 130 = .ok (.aload_n 0, 1) := by decide +kernel
theorem dX8_street_131 : decode cX8_street 131 = .ok (.dup, 1) := by decide +kernel
theorem dX8_street_132 : decode cX8_street 132 = .ok (.getfield 83, 3) := by decide +kernel
theorem dX8_street_135 : decode cX8_street 135 = .ok (.iconst 1, 1) := by decide +kernel
theorem dX8_street_136 : decode cX8_street 136 = .ok (.iadd, 1) := by decide +kernel
theorem dX8_street_137 : decode cX8_street 137 = .ok (.putfield 83, 3) := by decide +kernel
theorem dX8_street_140 : decode cX8_street 140 = .ok (.aload_n 0, 1) := by decide +kernel
theorem dX8_street_141 : decode cX8_street 141 = .ok (.invokevirtual 114, 3) := by decide +kernel
theorem dX8_street_144 : decode cX8_street 144 = .ok (.pop, 1) := by decide +kernel
theorem dX8_street_145 : decode cX8_street 145 = .ok (.aload_n 0, 1) := by decide +kernel
theorem dX8_street_146 : decode cX8_street 146 = .ok (.getfield 83, 3) := by decide +kernel
theorem dX8_street_149 : decode cX8_street 149 = .ok (.iconst 1, 1) := by decide +kernel
theorem dX8_street_150 : decode cX8_street 150 = .ok (.isub, 1) := by decide +kernel
theorem dX8_street_151 : decode cX8_street 151 = .ok (.ireturn, 1) := by decide +kernel
theorem dX8_old_0 : decode cX8_old 0 = .ok (.lload_n 1, 1) := by decide +kernel
theorem dX8_old_1 : decode cX8_old 1 = .ok (.lconst 0, 1) := by decide +kernel
theorem dX8_old_2 : decode cX8_old 2 = .ok (.lcmp, 1) := by decide +kernel
theorem dX8_old_3 : decode cX8_old 3 = .ok (.ifCond .ne 4, 3) := by decide +kernel
theorem dX8_old_6 : decode cX8_old 6 = .ok (.return_, 1) := by decide +kernel
theorem dX8_old_7 : decode cX8_old 7 = .ok (.aload_n 0, 1) := by decide +kernel
theorem dX8_old_8 : decode cX8_old 8 = .ok (.getfield 118, 3) := by decide +kernel
theorem dX8_old_11 : decode cX8_old 11 = .ok (.sipush 200, 3) := by decide +kernel
theorem dX8_old_14 : decode cX8_old 14 = .ok (.if_icmp .ne 94, 3) := by decide +kernel
theorem dX8_old_17 : decode cX8_old 17 = .ok (.iconst 1, 1) := by decide +kernel
theorem dX8_old_18 : decode cX8_old 18 = .ok (.istore 5, 2) := by decide +kernel
theorem dX8_old_20 : decode cX8_old 20 = .ok (.iload 5, 2) := by decide +kernel
theorem dX8_old_22 : decode cX8_old 22 = .ok (.sipush 200, 3) := by decide +kernel
theorem dX8_old_25 : decode cX8_old 25 = .ok (.if_icmp .ge 73, 3) := by decide +kernel
theorem dX8_old_28 : decode cX8_old 28 = .ok (.aload_n 0, 1) := by decide +kernel
theorem dX8_old_29 : decode cX8_old 29 = .ok (.getfield 52, 3) := by decide +kernel
theorem dX8_old_32 : decode cX8_old 32 = .ok (.iload 5, 2) := by decide +kernel
theorem dX8_old_34 : decode cX8_old 34 = .ok (.iconst 1, 1) := by decide +kernel
theorem dX8_old_35 : decode cX8_old 35 = .ok (.isub, 1) := by decide +kernel
theorem dX8_old_36 : decode cX8_old 36 = .ok (.aload_n 0, 1) := by decide +kernel
theorem dX8_old_37 : decode cX8_old 37 = .ok (.getfield 52, 3) := by decide +kernel
theorem dX8_old_40 : decode cX8_old 40 = .ok (.iload 5, 2) := by decide +kernel
theorem dX8_old_42 : decode cX8_old 42 = .ok (.laload, 1) := by decide +kernel
theorem dX8_old_43 : decode cX8_old 43 = .ok (.lastore, 1) := by decide +kernel
theorem dX8_old_44 : decode cX8_old 44 = .ok (.aload_n 0, 1) := by decide +kernel
theorem dX8_old_45 : decode cX8_old 45 = .ok (.getfield 55, 3) := by decide +kernel
theorem dX8_old_48 : decode cX8_old 48 = .ok (.iload 5, 2) := by decide +kernel
theorem dX8_old_50 : decode cX8_old 50 = .ok (.iconst 1, 1) := by decide +kernel
theorem dX8_old_51 : decode cX8_old 51 = .ok (.isub, 1) := by decide +kernel
theorem dX8_old_52 : decode cX8_old 52 = .ok (.aload_n 0, 1) := by decide +kernel
theorem dX8_old_53 : decode cX8_old 53 = .ok (.getfield 55, 3) := by decide +kernel
theorem dX8_old_56 : decode cX8_old 56 = .ok (.iload 5, 2) := by decide +kernel
theorem dX8_old_58 : decode cX8_old 58 = .ok (.iaload, 1) := by decide +kernel
theorem dX8_old_59 : decode cX8_old 59 = .ok (.iastore, 1) := by decide +kernel
theorem dX8_old_60 : decode cX8_old 60 = .ok (.aload_n 0, 1) := by decide +kernel
theorem dX8_old_61 : decode cX8_old 61 = .ok (.getfield 58, 3) := by decide +kernel
theorem dX8_old_64 : decode cX8_old 64 = .ok (.iload 5, 2) := by decide +kernel
theorem dX8_old_66 : decode cX8_old 66 = .ok (.iconst 1, 1) := by decide +kernel
theorem dX8_old_67 : decode cX8_old 67 = .ok (.isub, 1) := by decide +kernel
theorem dX8_old_68 : decode cX8_old 68 = .ok (.aload_n 0, 1) := by decide +kernel
theorem dX8_old_69 : decode cX8_old 69 = .ok (.getfield 58, 3) := by decide +kernel
theorem dX8_old_72 : decode cX8_old 72 = .ok (.iload 5, 2) := by decide +kernel
theorem dX8_old_74 : decode cX8_old 74 = .ok (.iaload, 1) := by decide +kernel
theorem dX8_old_75 : decode cX8_old 75 = .ok (.iastore, 1) := by decide +kernel
theorem dX8_old_76 : decode cX8_old 76 = .ok (.aload_n 0, 1) := by decide +kernel
theorem dX8_old_77 : decode cX8_old 77 = .ok (.getfield 61, 3) := by decide +kernel
theorem dX8_old_80 : decode cX8_old 80 = .ok (.iload 5, 2) := by decide +kernel
theorem dX8_old_82 : decode cX8_old 82 = .ok (.iconst 1, 1) := by decide +kernel
theorem dX8_old_83 : decode cX8_old 83 = .ok (.isub, 1) := by decide +kernel
theorem dX8_old_84 : decode cX8_old 84 = .ok (.aload_n 0, 1) := by decide +kernel
theorem dX8_old_85 : decode cX8_old 85 = .ok (.getfield 61, 3) := by decide +kernel
theorem dX8_old_88 : decode cX8_old 88 = .ok (.iload 5, 2) := by decide +kernel
theorem dX8_old_90 : decode cX8_old 90 = .ok (.iaload, 1) := by decide +kernel
theorem dX8_old_91 : decode cX8_old 91 = .ok (.iastore, 1) := by decide +kernel
theorem dX8_old_92 : decode cX8_old 92 = .ok (.iinc 5 1, 3) := by decide +kernel
theorem dX8_old_95 : decode cX8_old 95 = .ok (.goto (-75), 3) := by decide +kernel
theorem dX8_old_98 : decode cX8_old 98 = .ok (.aload_n 0, 1) := by decide +kernel
theorem dX8_old_99 : decode cX8_old 99 = .ok (.dup, 1) := by decide +kernel
theorem dX8_old_100 : decode cX8_old 100 = .ok (.getfield 118, 3) := by decide +kernel
theorem dX8_old_103 : decode cX8_old 103 = .ok (.iconst 1, 1) := by decide +kernel
theorem dX8_old_104 : decode cX8_old 104 = .ok (.isub, 1) := by decide +kernel
theorem dX8_old_105 : decode cX8_old 105 = .ok (.putfield 118, 3) := by decide +kernel
theorem dX8_old_108 : decode cX8_old 108 = .ok (.aload_n 0, 1) := by decide +kernel
theorem dX8_old_109 : decode cX8_old 109 = .ok (.getfield 52, 3) := by decide +kernel
theorem dX8_old_112 : decode cX8_old 112 = .ok (.aload_n 0, 1) := by decide +kernel
theorem dX8_old_113 : decode cX8_old 113 = .ok (.getfield 118, 3) := by decide +kernel
theorem dX8_old_116 : decode cX8_old 116 = .ok (.lload_n 1, 1) := by decide +kernel
theorem dX8_old_117 : decode cX8_old 117 = .ok (.lastore, 1) := by decide +kernel
theorem dX8_old_118 : decode cX8_old 118 = .ok (.aload_n 0, 1) := by decide +kernel
theorem dX8_old_119 : decode cX8_old 119 = .ok (.getfield 55, 3) := by decide +kernel
theorem dX8_old_122 : decode cX8_old 122 = .ok (.aload_n 0, 1) := by decide +kernel
theorem dX8_old_123 : decode cX8_old 123 = .ok (.getfield 118, 3) := by decide +kernel
theorem dX8_old_126 : decode cX8_old 126 = .ok (.iload_n 3, 1) := by decide +kernel
theorem dX8_old_127 : decode cX8_old 127 = .ok (.iastore, 1) := by decide +kernel
theorem dX8_old_128 : decode cX8_old 128 = .ok (.aload_n 0, 1) := by decide +kernel
theorem dX8_old_129 : decode cX8_old 129 = .ok (.getfield 58, 3) := by decide +kernel
theorem dX8_old_132 : decode cX8_old 132 = .ok (.aload_n 0, 1) := by decide +kernel
theorem dX8_old_133 : decode cX8_old 133 = .ok (.getfield 118, 3) := by decide +kernel
theorem dX8_old_136 : decode cX8_old 136 = .ok (.iload 4, 2) := by decide +kernel
theorem dX8_old_138 : decode cX8_old 138 = .ok (.iastore, 1) := by decide +kernel
theorem dX8_old_139 : decode cX8_old 139 = .ok (.aload_n 0, 1) := by decide +kernel
theorem dX8_old_140 : decode cX8_old 140 = .ok (.getfield 61, 3) := by decide +kernel
theorem dX8_old_143 : decode cX8_old 143 = .ok (.aload_n 0, 1) := by decide +kernel
theorem dX8_old_144 : decode cX8_old 144 = .ok (.getfield 118, 3) := by decide +kernel
theorem dX8_old_147 : decode cX8_old 147 = .ok (.aload_n 0, 1) := by decide +kernel
theorem dX8_old_148 : decode cX8_old 148 = .ok (.getfield 121, 3) := by decide +kernel
theorem dX8_old_151 : decode cX8_old 151 = .ok (.iastore, 1) := by decide +kernel
theorem dX8_old_152 : decode cX8_old 152 = .ok (.aload_n 0, 1) := by decide +kernel
theorem dX8_old_153 : decode cX8_old 153 = .ok (.dup, 1) := by decide +kernel
theorem dX8_old_154 : decode cX8_old 154 = .ok (.getfield 118, 3) := by decide +kernel
theorem dX8_old_157 : decode cX8_old 157 = .ok (.iconst 1, 1) := by decide +kernel
theorem dX8_old_158 : decode cX8_old 158 = .ok (.iadd, 1) := by decide +kernel
theorem dX8_old_159 : decode cX8_old 159 = .ok (.putfield 118, 3) := by decide +kernel
theorem dX8_old_162 : decode cX8_old 162 = .ok (.return_, 1) := by decide +kernel
theorem dX8_placeOn_0 : decode cX8_placeOn 0 = .ok (.aload_n 0, 1) := by decide +kernel
theorem dX8_placeOn_1 : decode cX8_placeOn 1 = .ok (.getfield 34, 3) := by decide +kernel
theorem dX8_placeOn_4 : decode cX8_placeOn 4 = .ok (.iconst 2, 1) := by decide +kernel
theorem dX8_placeOn_5 : decode cX8_placeOn 5 = .ok (.iload_n 1, 1) := by decide +kernel
theorem dX8_placeOn_6 : decode cX8_placeOn 6 = .ok (.imul, 1) := by decide +kernel
theorem dX8_placeOn_7 : decode cX8_placeOn 7 = .ok (.iaload, 1) := by decide +kernel
theorem dX8_placeOn_8 : decode cX8_placeOn 8 = .ok (.iload_n 2, 1) := by decide +kernel
theorem dX8_placeOn_9 : decode cX8_placeOn 9 = .ok (.if_icmp .ne 9, 3) := by decide +kernel
theorem dX8_placeOn_12 : decode cX8_placeOn 12 = .ok (.iconst 2, 1) := by decide +kernel
theorem dX8_placeOn_13 : decode cX8_placeOn 13 = .ok (.iload_n 1, 1) := by decide +kernel
theorem dX8_placeOn_14 : decode cX8_placeOn 14 = .ok (.imul, 1) := by decide +kernel
theorem dX8_placeOn_15 : decode cX8_placeOn 15 = .ok (.goto 26, 3) := by decide +kernel
theorem dX8_placeOn_18 : decode cX8_placeOn 18 = .ok (.aload_n 0, 1) := by decide +kernel
theorem dX8_placeOn_19 : decode cX8_placeOn 19 = .ok (.getfield 34, 3) := by decide +kernel
theorem dX8_placeOn_22 : decode cX8_placeOn 22 = .ok (.iconst 2, 1) := by decide +kernel
theorem dX8_placeOn_23 : decode cX8_placeOn 23 = .ok (.iload_n 1, 1) := by decide +kernel
theorem dX8_placeOn_24 : decode cX8_placeOn 24 = .ok (.imul, 1) := by decide +kernel
theorem dX8_placeOn_25 : decode cX8_placeOn 25 = .ok (.iconst 1, 1) := by decide +kernel
theorem dX8_placeOn_26 : decode cX8_placeOn 26 = .ok (.iadd, 1) := by decide +kernel
theorem dX8_placeOn_27 : decode cX8_placeOn 27 = .ok (.iaload, 1) := by decide +kernel
theorem dX8_placeOn_28 : decode cX8_placeOn 28 = .ok (.iload_n 2, 1) := by decide +kernel
theorem dX8_placeOn_29 : decode cX8_placeOn 29 = .ok (.if_icmp .ne 11, 3) := by decide +kernel
theorem dX8_placeOn_32 : decode cX8_placeOn 32 = .ok (.iconst 2, 1) := by decide +kernel
theorem dX8_placeOn_33 : decode cX8_placeOn 33 = .ok (.iload_n 1, 1) := by decide +kernel
theorem dX8_placeOn_34 : decode cX8_placeOn 34 = .ok (.imul, 1) := by decide +kernel
theorem dX8_placeOn_35 : decode cX8_placeOn 35 = .ok (.iconst 1, 1) := by decide +kernel
theorem dX8_placeOn_36 : decode cX8_placeOn 36 = .ok (.iadd, 1) := by decide +kernel
theorem dX8_placeOn_37 : decode cX8_placeOn 37 = .ok (.goto 4, 3) := by decide +kernel
theorem dX8_placeOn_40 : decode cX8_placeOn 40 = .ok (.iconst (-1), 1) := by decide +kernel
theorem dX8_placeOn_41 : decode cX8_placeOn 41 = .ok (.ireturn, 1) := by decide +kernel
theorem dX8_nameGoes_0 : decode cX8_nameGoes 0 = .ok (.iconst 0, 1) := by decide +kernel
theorem dX8_nameGoes_1 : decode cX8_nameGoes 1 = .ok (.istore 4, 2) := by decide +kernel
theorem dX8_nameGoes_3 : decode cX8_nameGoes 3 = .ok (.iload 4, 2) := by decide +kernel
theorem dX8_nameGoes_5 : decode cX8_nameGoes 5 = .ok (.aload_n 0, 1) := by decide +kernel
theorem dX8_nameGoes_6 : decode cX8_nameGoes 6 = .ok (.getfield 90, 3) := by decide +kernel
theorem dX8_nameGoes_9 : decode cX8_nameGoes 9 = .ok (.if_icmp .ge 38, 3) := by decide +kernel
theorem dX8_nameGoes_12 : decode cX8_nameGoes 12 = .ok (.aload_n 0, 1) := by decide +kernel
theorem dX8_nameGoes_13 : decode cX8_nameGoes 13 = .ok (.iload 4, 2) := by decide +kernel
theorem dX8_nameGoes_15 : decode cX8_nameGoes 15 = .ok (.iload_n 1, 1) := by decide +kernel
theorem dX8_nameGoes_16 : decode cX8_nameGoes 16 = .ok (.invokevirtual 124, 3) := by decide +kernel
theorem dX8_nameGoes_19 : decode cX8_nameGoes 19 = .ok (.istore 5, 2) := by decide +kernel
theorem dX8_nameGoes_21 : decode cX8_nameGoes 21 = .ok (.iload 5, 2) := by decide +kernel
theorem dX8_nameGoes_23 : decode cX8_nameGoes 23 = .ok (.iconst (-1), 1) := by decide +kernel
theorem dX8_nameGoes_24 : decode cX8_nameGoes 24 = .ok (.if_icmp .eq 17, 3) := by decide +kernel
theorem dX8_nameGoes_27 : decode cX8_nameGoes 27 = .ok (.aload_n 0, 1) := by decide +kernel
theorem dX8_nameGoes_28 : decode cX8_nameGoes 28 = .ok (.lload_n 2, 1) := by decide +kernel
theorem dX8_nameGoes_29 : decode cX8_nameGoes 29 = .ok (.aload_n 0, 1) := by decide +kernel
theorem dX8_nameGoes_30 : decode cX8_nameGoes 30 = .ok (.getfield 43, 3) := by decide +kernel
theorem dX8_nameGoes_33 : decode cX8_nameGoes 33 = .ok (.iload 5, 2) := by decide +kernel
theorem dX8_nameGoes_35 : decode cX8_nameGoes 35 = .ok (.iaload, 1) := by decide +kernel
theorem dX8_nameGoes_36 : decode cX8_nameGoes 36 = .ok (.iload 4, 2) := by decide +kernel
theorem dX8_nameGoes_38 : decode cX8_nameGoes 38 = .ok (.invokevirtual 128, 3) := by decide +kernel
theorem dX8_nameGoes_41 : decode cX8_nameGoes 41 = .ok (.iinc 4 1, 3) := by decide +kernel
theorem dX8_nameGoes_44 : decode cX8_nameGoes 44 = .ok (.goto (-41), 3) := by decide +kernel
theorem dX8_nameGoes_47 : decode cX8_nameGoes 47 = .ok (.return_, 1) := by decide +kernel
theorem dX8_rename_0 : decode cX8_rename 0 = .ok (.aload_n 0, 1) := by decide +kernel
theorem dX8_rename_1 : decode cX8_rename 1 = .ok (.aload_n 0, 1) := by decide +kernel
theorem dX8_rename_2 : decode cX8_rename 2 = .ok (.iload_n 1, 1) := by decide +kernel
theorem dX8_rename_3 : decode cX8_rename 3 = .ok (.invokevirtual 132, 3) := by decide +kernel
theorem dX8_rename_6 : decode cX8_rename 6 = .ok (.iconst 1, 1) := by decide +kernel
theorem dX8_rename_7 : decode cX8_rename 7 = .ok (.invokevirtual 93, 3) := by decide +kernel
theorem dX8_rename_10 : decode cX8_rename 10 = .ok (.ifCond .ne 34, 3) := by decide +kernel
theorem dX8_rename_13 : decode cX8_rename 13 = .ok (.aload_n 0, 1) := by decide +kernel
theorem dX8_rename_14 : decode cX8_rename 14 = .ok (.aload_n 0, 1) := by decide +kernel
theorem dX8_rename_15 : decode cX8_rename 15 = .ok (.getfield 97, 3) := by decide +kernel
theorem dX8_rename_18 : decode cX8_rename 18 = .ok (.ifCond .le 18, 3) := by decide +kernel
theorem dX8_rename_21 : decode cX8_rename 21 = .ok (.aload_n 0, 1) := by decide +kernel
theorem dX8_rename_22 : decode cX8_rename 22 = .ok (.aload_n 0, 1) := by decide +kernel
theorem dX8_rename_23 : decode cX8_rename 23 = .ok (.getfield 102, 3) := by decide +kernel
theorem dX8_rename_26 : decode cX8_rename 26 = .ok (.invokevirtual 110, 3) := by decide +kernel
theorem dX8_rename_29 : decode cX8_rename 29 = .ok (.ifCond .ne 7, 3) := by decide +kernel
theorem dX8_rename_32 : decode cX8_rename 32 = .ok (.iconst 1, 1) := by decide +kernel
theorem dX8_rename_33 : decode cX8_rename 33 = .ok (.goto 4, 3) := by decide +kernel
theorem dX8_rename_36 : decode cX8_rename 36 = .ok (.iconst 0, 1) := by decide +kernel
theorem dX8_rename_37 : decode cX8_rename 37 = .ok (.iconst 2, 1) := by decide +kernel
theorem dX8_rename_38 : decode cX8_rename 38 = .ok (.invokevirtual 93, 3) := by decide +kernel
theorem dX8_rename_41 : decode cX8_rename 41 = .ok (.ifCond .eq 5, 3) := by decide +kernel
theorem dX8_rename_44 : decode cX8_rename 44 = .ok (.iconst 0, 1) := by decide +kernel
theorem dX8_rename_45 : decode cX8_rename 45 = .ok (.ireturn, 1) := by decide +kernel
theorem dX8_rename_46 : decode cX8_rename 46 = .ok (.aload_n 0, 1) := by decide +kernel
theorem dX8_rename_47 : decode cX8_rename 47 = .ok (.iload_n 1, 1) := by decide +kernel
theorem dX8_rename_48 : decode cX8_rename 48 = .ok (.aload_n 0, 1) := by decide +kernel
theorem dX8_rename_49 : decode cX8_rename 49 = .ok (.getfield 7, 3) := by decide +kernel
theorem dX8_rename_52 : decode cX8_rename 52 = .ok (.iload_n 1, 1) := by decide +kernel
theorem dX8_rename_53 : decode cX8_rename 53 = .ok (.laload, 1) := by decide +kernel
theorem dX8_rename_54 : decode cX8_rename 54 = .ok (.invokevirtual 136, 3) := by decide +kernel
theorem dX8_rename_57 : decode cX8_rename 57 = .ok (.aload_n 0, 1) := by decide +kernel
theorem dX8_rename_58 : decode cX8_rename 58 = .ok (.getfield 7, 3) := by decide +kernel
theorem dX8_rename_61 : decode cX8_rename 61 = .ok (.iload_n 1, 1) := by decide +kernel
theorem dX8_rename_62 : decode cX8_rename 62 = .ok (.aload_n 0, 1) := by decide +kernel
theorem dX8_rename_63 : decode cX8_rename 63 = .ok (.getfield 102, 3) := by decide +kernel
theorem dX8_rename_66 : decode cX8_rename 66 = .ok (.lastore, 1) := by decide +kernel
theorem dX8_rename_67 : decode cX8_rename 67 = .ok (.aload_n 0, 1) := by decide +kernel
theorem dX8_rename_68 : decode cX8_rename 68 = .ok (.invokevirtual 114, 3) := by decide +kernel
theorem dX8_rename_71 : decode cX8_rename 71 = .ok (.pop, 1) := by decide +kernel
theorem dX8_rename_72 : decode cX8_rename 72 = .ok (.aload_n 0, 1) := by decide +kernel
theorem dX8_rename_73 : decode cX8_rename 73 = .ok (.getfield 118, 3) := by decide +kernel
theorem dX8_rename_76 : decode cX8_rename 76 = .ok (.ireturn, 1) := by decide +kernel
theorem dX8_translate_0 : decode cX8_translate 0 = .ok (.aload_n 0, 1) := by decide +kernel
theorem dX8_translate_1 : decode cX8_translate 1 = .ok (.aload_n 0, 1) := by decide +kernel
theorem dX8_translate_2 : decode cX8_translate 2 = .ok (.iload_n 1, 1) := by decide +kernel
theorem dX8_translate_3 : decode cX8_translate 3 = .ok (.invokevirtual 132, 3) := by decide +kernel
theorem dX8_translate_6 : decode cX8_translate 6 = .ok (.iconst 1, 1) := by decide +kernel
theorem dX8_translate_7 : decode cX8_translate 7 = .ok (.invokevirtual 93, 3) := by decide +kernel
theorem dX8_translate_10 : decode cX8_translate 10 = .ok (.ifCond .ne 27, 3) := by decide +kernel
theorem dX8_translate_13 : decode cX8_translate 13 = .ok (.aload_n 0, 1) := by decide +kernel
theorem dX8_translate_14 : decode cX8_translate 14 = .ok (.aload_n 0, 1) := by decide +kernel
theorem dX8_translate_15 : decode cX8_translate 15 = .ok (.aload_n 0, 1) := by decide +kernel
theorem dX8_translate_16 : decode cX8_translate 16 = .ok (.getfield 102, 3) := by decide +kernel
theorem dX8_translate_19 : decode cX8_translate 19 = .ok (.invokevirtual 110, 3) := by decide +kernel
theorem dX8_translate_22 : decode cX8_translate 22 = .ok (.ifCond .ne 7, 3) := by decide +kernel
theorem dX8_translate_25 : decode cX8_translate 25 = .ok (.iconst 1, 1) := by decide +kernel
theorem dX8_translate_26 : decode cX8_translate 26 = .ok (.goto 4, 3) := by decide +kernel
theorem dX8_translate_29 : decode cX8_translate 29 = .ok (.iconst 0, 1) := by decide +kernel
theorem dX8_translate_30 : decode cX8_translate 30 = .ok (.iconst 2, 1) := by decide +kernel
theorem dX8_translate_31 : decode cX8_translate 31 = .ok (.invokevirtual 93, 3) := by decide +kernel
theorem dX8_translate_34 : decode cX8_translate 34 = .ok (.ifCond .eq 5, 3) := by decide +kernel
theorem dX8_translate_37 : decode cX8_translate 37 = .ok (.iconst 0, 1) := by decide +kernel
theorem dX8_translate_38 : decode cX8_translate 38 = .ok (.ireturn, 1) := by decide +kernel
theorem dX8_translate_39 : decode cX8_translate 39 = .ok (.aload_n 0, 1) := by decide +kernel
theorem dX8_translate_40 : decode cX8_translate 40 = .ok (.iload_n 1, 1) := by decide +kernel
theorem dX8_translate_41 : decode cX8_translate 41 = .ok (.aload_n 0, 1) := by decide +kernel
theorem dX8_translate_42 : decode cX8_translate 42 = .ok (.getfield 13, 3) := by decide +kernel
theorem dX8_translate_45 : decode cX8_translate 45 = .ok (.iload_n 1, 1) := by decide +kernel
theorem dX8_translate_46 : decode cX8_translate 46 = .ok (.laload, 1) := by decide +kernel
theorem dX8_translate_47 : decode cX8_translate 47 = .ok (.invokevirtual 136, 3) := by decide +kernel
theorem dX8_translate_50 : decode cX8_translate 50 = .ok (.aload_n 0, 1) := by decide +kernel
theorem dX8_translate_51 : decode cX8_translate 51 = .ok (.getfield 13, 3) := by decide +kernel
theorem dX8_translate_54 : decode cX8_translate 54 = .ok (.iload_n 1, 1) := by decide +kernel
theorem dX8_translate_55 : decode cX8_translate 55 = .ok (.aload_n 0, 1) := by decide +kernel
theorem dX8_translate_56 : decode cX8_translate 56 = .ok (.getfield 102, 3) := by decide +kernel
theorem dX8_translate_59 : decode cX8_translate 59 = .ok (.lastore, 1) := by decide +kernel
theorem dX8_translate_60 : decode cX8_translate 60 = .ok (.aload_n 0, 1) := by decide +kernel
theorem dX8_translate_61 : decode cX8_translate 61 = .ok (.invokevirtual 114, 3) := by decide +kernel
theorem dX8_translate_64 : decode cX8_translate 64 = .ok (.pop, 1) := by decide +kernel
theorem dX8_translate_65 : decode cX8_translate 65 = .ok (.aload_n 0, 1) := by decide +kernel
theorem dX8_translate_66 : decode cX8_translate 66 = .ok (.getfield 118, 3) := by decide +kernel
theorem dX8_translate_69 : decode cX8_translate 69 = .ok (.ireturn, 1) := by decide +kernel
theorem dX8_letter_0 : decode cX8_letter 0 = .ok (.aload_n 0, 1) := by decide +kernel
theorem dX8_letter_1 : decode cX8_letter 1 = .ok (.aload_n 0, 1) := by decide +kernel
theorem dX8_letter_2 : decode cX8_letter 2 = .ok (.iload_n 1, 1) := by decide +kernel
theorem dX8_letter_3 : decode cX8_letter 3 = .ok (.invokevirtual 132, 3) := by decide +kernel
theorem dX8_letter_6 : decode cX8_letter 6 = .ok (.iconst 1, 1) := by decide +kernel
theorem dX8_letter_7 : decode cX8_letter 7 = .ok (.invokevirtual 93, 3) := by decide +kernel
theorem dX8_letter_10 : decode cX8_letter 10 = .ok (.ifCond .eq 6, 3) := by decide +kernel
theorem dX8_letter_13 : decode cX8_letter 13 = .ok (.bipush 45, 2) := by decide +kernel
theorem dX8_letter_15 : decode cX8_letter 15 = .ok (.ireturn, 1) := by decide +kernel
theorem dX8_letter_16 : decode cX8_letter 16 = .ok (.iload_n 2, 1) := by decide +kernel
theorem dX8_letter_17 : decode cX8_letter 17 = .ok (.ifCond .eq 12, 3) := by decide +kernel
theorem dX8_letter_20 : decode cX8_letter 20 = .ok (.aload_n 0, 1) := by decide +kernel
theorem dX8_letter_21 : decode cX8_letter 21 = .ok (.getfield 13, 3) := by decide +kernel
theorem dX8_letter_24 : decode cX8_letter 24 = .ok (.iload_n 1, 1) := by decide +kernel
theorem dX8_letter_25 : decode cX8_letter 25 = .ok (.laload, 1) := by decide +kernel
theorem dX8_letter_26 : decode cX8_letter 26 = .ok (.goto 9, 3) := by decide +kernel
theorem dX8_letter_29 : decode cX8_letter 29 = .ok (.aload_n 0, 1) := by decide +kernel
theorem dX8_letter_30 : decode cX8_letter 30 = .ok (.getfield 7, 3) := by decide +kernel
theorem dX8_letter_33 : decode cX8_letter 33 = .ok (.iload_n 1, 1) := by decide +kernel
theorem dX8_letter_34 : decode cX8_letter 34 = .ok (.laload, 1) := by decide +kernel
theorem dX8_letter_35 : decode cX8_letter 35 = .ok (.lstore 4, 2) := by decide +kernel
theorem dX8_letter_37 : decode cX8_letter 37 = .ok (.iconst 0, 1) := by decide +kernel
theorem dX8_letter_38 : decode cX8_letter 38 = .ok (.istore 6, 2) := by decide +kernel
theorem dX8_letter_40 : decode cX8_letter 40 = .ok (.lload 4, 2) := by decide +kernel
theorem dX8_letter_42 : decode cX8_letter 42 = .ok (.lstore 7, 2) := by decide +kernel
theorem dX8_letter_44 : decode cX8_letter 44 = .ok (.lload 7, 2) := by decide +kernel
theorem dX8_letter_46 : decode cX8_letter 46 = .ok (.lconst 0, 1) := by decide +kernel
theorem dX8_letter_47 : decode cX8_letter 47 = .ok (.lcmp, 1) := by decide +kernel
theorem dX8_letter_48 : decode cX8_letter 48 = .ok (.ifCond .le 17, 3) := by decide +kernel
theorem dX8_letter_51 : decode cX8_letter 51 = .ok (.iinc 6 1, 3) := by decide +kernel
theorem dX8_letter_54 : decode cX8_letter 54 = .ok (.lload 7, 2) := by decide +kernel
theorem dX8_letter_56 : decode cX8_letter 56 = .ok (.ldc2_w 100, 3) := by decide +kernel
theorem dX8_letter_59 : decode cX8_letter 59 = .ok (.ldiv, 1) := by decide +kernel
theorem dX8_letter_60 : decode cX8_letter 60 = .ok (.lstore 7, 2) := by decide +kernel
theorem dX8_letter_62 : decode cX8_letter 62 = .ok (.goto (-18), 3) := by decide +kernel
theorem dX8_letter_65 : decode cX8_letter 65 = .ok (.aload_n 0, 1) := by decide +kernel
theorem dX8_letter_66 : decode cX8_letter 66 = .ok (.iload_n 3, 1) := by decide +kernel
theorem dX8_letter_67 : decode cX8_letter 67 = .ok (.iconst 0, 1) := by decide +kernel
theorem dX8_letter_68 : decode cX8_letter 68 = .ok (.iload 6, 2) := by decide +kernel
theorem dX8_letter_70 : decode cX8_letter 70 = .ok (.iconst 1, 1) := by decide +kernel
theorem dX8_letter_71 : decode cX8_letter 71 = .ok (.isub, 1) := by decide +kernel
theorem dX8_letter_72 : decode cX8_letter 72 = .ok (.invokestatic 86, 3) := by decide +kernel
theorem dX8_letter_75 : decode cX8_letter 75 = .ok (.iconst 2, 1) := by decide +kernel
theorem dX8_letter_76 : decode cX8_letter 76 = .ok (.invokevirtual 93, 3) := by decide +kernel
theorem dX8_letter_79 : decode cX8_letter 79 = .ok (.ifCond .eq 6, 3) := by decide +kernel
theorem dX8_letter_82 : decode cX8_letter 82 = .ok (.bipush 45, 2) := by decide +kernel
theorem dX8_letter_84 : decode cX8_letter 84 = .ok (.ireturn, 1) := by decide +kernel
theorem dX8_letter_85 : decode cX8_letter 85 = .ok (.iload 6, 2) := by decide +kernel
theorem dX8_letter_87 : decode cX8_letter 87 = .ok (.iconst 1, 1) := by decide +kernel
theorem dX8_letter_88 : decode cX8_letter 88 = .ok (.isub, 1) := by decide +kernel
theorem dX8_letter_89 : decode cX8_letter 89 = .ok (.istore 7, 2) := by decide +kernel
theorem dX8_letter_91 : decode cX8_letter 91 = .ok (.iload 7, 2) := by decide +kernel
theorem dX8_letter_93 : decode cX8_letter 93 = .ok (.iload_n 3, 1) := by decide +kernel
theorem dX8_letter_94 : decode cX8_letter 94 = .ok (.if_icmp .le 17, 3) := by decide +kernel
theorem dX8_letter_97 : decode cX8_letter 97 = .ok (.lload 4, 2) := by decide +kernel
theorem dX8_letter_99 : decode cX8_letter 99 = .ok (.ldc2_w 100, 3) := by decide +kernel
theorem dX8_letter_102 : decode cX8_letter 102 = .ok (.ldiv, 1) := by decide +kernel
theorem dX8_letter_103 : decode cX8_letter 103 = .ok (.lstore 4, 2) := by decide +kernel
theorem dX8_letter_105 : decode cX8_letter 105 = .ok (.iinc 7 (-1), 3) := by decide +kernel
theorem dX8_letter_108 : decode cX8_letter 108 = .ok (.goto (-17), 3) := by decide +kernel
theorem dX8_letter_111 : decode cX8_letter 111 = .ok (.bipush 97, 2) := by decide +kernel
theorem dX8_letter_113 : decode cX8_letter 113 = .ok (.lload 4, 2) := by decide +kernel
theorem dX8_letter_115 : decode cX8_letter 115 = .ok (.ldc2_w 100, 3) := by decide +kernel
theorem dX8_letter_118 : decode cX8_letter 118 = .ok (.lrem, 1) := by decide +kernel
theorem dX8_letter_119 : decode cX8_letter 119 = .ok (.l2i, 1) := by decide +kernel
theorem dX8_letter_120 : decode cX8_letter 120 = .ok (.iadd, 1) := by decide +kernel
theorem dX8_letter_121 : decode cX8_letter 121 = .ok (.iconst 1, 1) := by decide +kernel
theorem dX8_letter_122 : decode cX8_letter 122 = .ok (.isub, 1) := by decide +kernel
theorem dX8_letter_123 : decode cX8_letter 123 = .ok (.i2c, 1) := by decide +kernel
theorem dX8_letter_124 : decode cX8_letter 124 = .ok (.ireturn, 1) := by decide +kernel
theorem dX8_way_0 : decode cX8_way 0 = .ok (.aload_n 0, 1) := by decide +kernel
theorem dX8_way_1 : decode cX8_way 1 = .ok (.aload_n 0, 1) := by decide +kernel
theorem dX8_way_2 : decode cX8_way 2 = .ok (.iload_n 1, 1) := by decide +kernel
theorem dX8_way_3 : decode cX8_way 3 = .ok (.invokevirtual 132, 3) := by decide +kernel
theorem dX8_way_6 : decode cX8_way 6 = .ok (.iconst 1, 1) := by decide +kernel
theorem dX8_way_7 : decode cX8_way 7 = .ok (.invokevirtual 93, 3) := by decide +kernel
theorem dX8_way_10 : decode cX8_way 10 = .ok (.ifCond .ne 15, 3) := by decide +kernel
theorem dX8_way_13 : decode cX8_way 13 = .ok (.aload_n 0, 1) := by decide +kernel
theorem dX8_way_14 : decode cX8_way 14 = .ok (.iload_n 2, 1) := by decide +kernel
theorem dX8_way_15 : decode cX8_way 15 = .ok (.invokestatic 106, 3) := by decide +kernel
theorem dX8_way_18 : decode cX8_way 18 = .ok (.iconst 2, 1) := by decide +kernel
theorem dX8_way_19 : decode cX8_way 19 = .ok (.invokevirtual 93, 3) := by decide +kernel
theorem dX8_way_22 : decode cX8_way 22 = .ok (.ifCond .eq 6, 3) := by decide +kernel
theorem dX8_way_25 : decode cX8_way 25 = .ok (.bipush 45, 2) := by decide +kernel
theorem dX8_way_27 : decode cX8_way 27 = .ok (.ireturn, 1) := by decide +kernel
theorem dX8_way_28 : decode cX8_way 28 = .ok (.aload_n 0, 1) := by decide +kernel
theorem dX8_way_29 : decode cX8_way 29 = .ok (.getfield 20, 3) := by decide +kernel
theorem dX8_way_32 : decode cX8_way 32 = .ok (.iload_n 1, 1) := by decide +kernel
theorem dX8_way_33 : decode cX8_way 33 = .ok (.caload, 1) := by decide +kernel
theorem dX8_way_34 : decode cX8_way 34 = .ok (.istore 4, 2) := by decide +kernel
theorem dX8_way_36 : decode cX8_way 36 = .ok (.aload_n 0, 1) := by decide +kernel
theorem dX8_way_37 : decode cX8_way 37 = .ok (.getfield 20, 3) := by decide +kernel
theorem dX8_way_40 : decode cX8_way 40 = .ok (.iload_n 1, 1) := by decide +kernel
theorem dX8_way_41 : decode cX8_way 41 = .ok (.iload_n 2, 1) := by decide +kernel
theorem dX8_way_42 : decode cX8_way 42 = .ok (.castore, 1) := by decide +kernel
theorem dX8_way_43 : decode cX8_way 43 = .ok (.aload_n 0, 1) := by decide +kernel
theorem dX8_way_44 : decode cX8_way 44 = .ok (.getfield 24, 3) := by decide +kernel
theorem dX8_way_47 : decode cX8_way 47 = .ok (.iload_n 1, 1) := by decide +kernel
theorem dX8_way_48 : decode cX8_way 48 = .ok (.iload_n 3, 1) := by decide +kernel
theorem dX8_way_49 : decode cX8_way 49 = .ok (.bastore, 1) := by decide +kernel
theorem dX8_way_50 : decode cX8_way 50 = .ok (.iload 4, 2) := by decide +kernel
theorem dX8_way_52 : decode cX8_way 52 = .ok (.ireturn, 1) := by decide +kernel
theorem dX8_from_0 : decode cX8_from 0 = .ok (.aload_n 0, 1) := by decide +kernel
theorem dX8_from_1 : decode cX8_from 1 = .ok (.getfield 24, 3) := by decide +kernel
theorem dX8_from_4 : decode cX8_from 4 = .ok (.iload_n 1, 1) := by decide +kernel
theorem dX8_from_5 : decode cX8_from 5 = .ok (.baload, 1) := by decide +kernel
theorem dX8_from_6 : decode cX8_from 6 = .ok (.ifCond .eq 14, 3) := by decide +kernel
theorem dX8_from_9 : decode cX8_from 9 = .ok (.aload_n 0, 1) := by decide +kernel
theorem dX8_from_10 : decode cX8_from 10 = .ok (.getfield 16, 3) := by decide +kernel
theorem dX8_from_13 : decode cX8_from 13 = .ok (.iload_n 1, 1) := by decide +kernel
theorem dX8_from_14 : decode cX8_from 14 = .ok (.iaload, 1) := by decide +kernel
theorem dX8_from_15 : decode cX8_from 15 = .ok (.iload_n 2, 1) := by decide +kernel
theorem dX8_from_16 : decode cX8_from 16 = .ok (.isub, 1) := by decide +kernel
theorem dX8_from_17 : decode cX8_from 17 = .ok (.goto 4, 3) := by decide +kernel
theorem dX8_from_20 : decode cX8_from 20 = .ok (.iload_n 2, 1) := by decide +kernel
theorem dX8_from_21 : decode cX8_from 21 = .ok (.ireturn, 1) := by decide +kernel
theorem dX8_isGiven_0 : decode cX8_isGiven 0 = .ok (.iconst 0, 1) := by decide +kernel
theorem dX8_isGiven_1 : decode cX8_isGiven 1 = .ok (.istore_n 3, 1) := by decide +kernel
theorem dX8_isGiven_2 : decode cX8_isGiven 2 = .ok (.iconst 0, 1) := by decide +kernel
theorem dX8_isGiven_3 : decode cX8_isGiven 3 = .ok (.istore 4, 2) := by decide +kernel
theorem dX8_isGiven_5 : decode cX8_isGiven 5 = .ok (.iload 4, 2) := by decide +kernel
theorem dX8_isGiven_7 : decode cX8_isGiven 7 = .ok (.iconst 2, 1) := by decide +kernel
theorem dX8_isGiven_8 : decode cX8_isGiven 8 = .ok (.aload_n 0, 1) := by decide +kernel
theorem dX8_isGiven_9 : decode cX8_isGiven 9 = .ok (.getfield 90, 3) := by decide +kernel
theorem dX8_isGiven_12 : decode cX8_isGiven 12 = .ok (.imul, 1) := by decide +kernel
theorem dX8_isGiven_13 : decode cX8_isGiven 13 = .ok (.if_icmp .ge 39, 3) := by decide +kernel
theorem dX8_isGiven_16 : decode cX8_isGiven 16 = .ok (.iload_n 3, 1) := by decide +kernel
theorem dX8_isGiven_17 : decode cX8_isGiven 17 = .ok (.aload_n 0, 1) := by decide +kernel
theorem dX8_isGiven_18 : decode cX8_isGiven 18 = .ok (.getfield 34, 3) := by decide +kernel
theorem dX8_isGiven_21 : decode cX8_isGiven 21 = .ok (.iload 4, 2) := by decide +kernel
theorem dX8_isGiven_23 : decode cX8_isGiven 23 = .ok (.iaload, 1) := by decide +kernel
theorem dX8_isGiven_24 : decode cX8_isGiven 24 = .ok (.iload_n 1, 1) := by decide +kernel
theorem dX8_isGiven_25 : decode cX8_isGiven 25 = .ok (.if_icmp .ne 18, 3) := by decide +kernel
theorem dX8_isGiven_28 : decode cX8_isGiven 28 = .ok (.aload_n 0, 1) := by decide +kernel
theorem dX8_isGiven_29 : decode cX8_isGiven 29 = .ok (.getfield 43, 3) := by decide +kernel
theorem dX8_isGiven_32 : decode cX8_isGiven 32 = .ok (.iload 4, 2) := by decide +kernel
theorem dX8_isGiven_34 : decode cX8_isGiven 34 = .ok (.iaload, 1) := by decide +kernel
theorem dX8_isGiven_35 : decode cX8_isGiven 35 = .ok (.iload_n 2, 1) := by decide +kernel
theorem dX8_isGiven_36 : decode cX8_isGiven 36 = .ok (.if_icmp .ne 7, 3) := by decide +kernel
theorem dX8_isGiven_39 : decode cX8_isGiven 39 = .ok (.iconst 1, 1) := by decide +kernel
theorem dX8_isGiven_40 : decode cX8_isGiven 40 = .ok (.goto 4, 3) := by decide +kernel
theorem dX8_isGiven_43 : decode cX8_isGiven 43 = .ok (.iconst 0, 1) := by decide +kernel
theorem dX8_isGiven_44 : decode cX8_isGiven 44 = .ok (.ior, 1) := by decide +kernel
theorem dX8_isGiven_45 : decode cX8_isGiven 45 = .ok (.istore_n 3, 1) := by decide +kernel
theorem dX8_isGiven_46 : decode cX8_isGiven 46 = .ok (.iinc 4 1, 3) := by decide +kernel
theorem dX8_isGiven_49 : decode cX8_isGiven 49 = .ok (.goto (-44), 3) := by decide +kernel
theorem dX8_isGiven_52 : decode cX8_isGiven 52 = .ok (.iload_n 3, 1) := by decide +kernel
theorem dX8_isGiven_53 : decode cX8_isGiven 53 = .ok (.ireturn, 1) := by decide +kernel
theorem dX8_isNumberGiven_0 : decode cX8_isNumberGiven 0 = .ok (.iconst 0, 1) := by decide +kernel
theorem dX8_isNumberGiven_1 : decode cX8_isNumberGiven 1 = .ok (.istore_n 3, 1) := by decide +kernel
theorem dX8_isNumberGiven_2 : decode cX8_isNumberGiven 2 = .ok (.iconst 0, 1) := by decide +kernel
theorem dX8_isNumberGiven_3 : decode cX8_isNumberGiven 3 = .ok (.istore 4, 2) := by decide +kernel
theorem dX8_isNumberGiven_5 : decode cX8_isNumberGiven 5 = .ok (.iload 4, 2) := by decide +kernel
theorem dX8_isNumberGiven_7 : decode cX8_isNumberGiven 7 = .ok (.iconst 2, 1) := by decide +kernel
theorem dX8_isNumberGiven_8 : decode cX8_isNumberGiven 8 = .ok (.aload_n 0, 1) := by decide +kernel
theorem dX8_isNumberGiven_9 : decode cX8_isNumberGiven 9 = .ok (.getfield 90, 3) := by decide +kernel
theorem dX8_isNumberGiven_12 : decode cX8_isNumberGiven 12 = .ok (.imul, 1) := by decide +kernel
theorem dX8_isNumberGiven_13 : decode cX8_isNumberGiven 13 = .ok (.if_icmp .ge 52, 3) := by decide +kernel
theorem dX8_isNumberGiven_16 : decode cX8_isNumberGiven 16 = .ok (.iload_n 3, 1) := by decide +kernel
theorem dX8_isNumberGiven_17 : decode cX8_isNumberGiven 17 = .ok (.aload_n 0, 1) := by decide +kernel
theorem dX8_isNumberGiven_18 : decode cX8_isNumberGiven 18 = .ok (.getfield 34, 3) := by decide +kernel
theorem dX8_isNumberGiven_21 : decode cX8_isNumberGiven 21 = .ok (.iload 4, 2) := by decide +kernel
theorem dX8_isNumberGiven_23 : decode cX8_isNumberGiven 23 = .ok (.iaload, 1) := by decide +kernel
theorem dX8_isNumberGiven_24 : decode cX8_isNumberGiven 24 = .ok (.iload_n 1, 1) := by decide +kernel
theorem dX8_isNumberGiven_25 : decode cX8_isNumberGiven 25 = .ok (.if_icmp .ne 31, 3) := by decide +kernel
theorem dX8_isNumberGiven_28 : decode cX8_isNumberGiven 28 = .ok (.aload_n 0, 1) := by decide +kernel
theorem dX8_isNumberGiven_29 : decode cX8_isNumberGiven 29 = .ok (.getfield 43, 3) := by decide +kernel
theorem dX8_isNumberGiven_32 : decode cX8_isNumberGiven 32 = .ok (.iload 4, 2) := by decide +kernel
theorem dX8_isNumberGiven_34 : decode cX8_isNumberGiven 34 = .ok (.iaload, 1) := by decide +kernel
theorem dX8_isNumberGiven_35 : decode cX8_isNumberGiven 35 = .ok (.ifCond .lt 21, 3) := by decide +kernel
theorem dX8_isNumberGiven_38 : decode cX8_isNumberGiven 38 = .ok (.aload_n 0, 1) := by decide +kernel
theorem dX8_isNumberGiven_39 : decode cX8_isNumberGiven 39 = .ok (.getfield 43, 3) := by decide +kernel
theorem dX8_isNumberGiven_42 : decode cX8_isNumberGiven 42 = .ok (.iload 4, 2) := by decide +kernel
theorem dX8_isNumberGiven_44 : decode cX8_isNumberGiven 44 = .ok (.iaload, 1) := by decide +kernel
theorem dX8_isNumberGiven_45 : decode cX8_isNumberGiven 45 = .ok (.bipush 10, 2) := by decide +kernel
theorem dX8_isNumberGiven_47 : decode cX8_isNumberGiven 47 = .ok (.idiv, 1) := by decide +kernel
theorem dX8_isNumberGiven_48 : decode cX8_isNumberGiven 48 = .ok (.iload_n 2, 1) := by decide +kernel
theorem dX8_isNumberGiven_49 : decode cX8_isNumberGiven 49 = .ok (.if_icmp .ne 7, 3) := by decide +kernel
theorem dX8_isNumberGiven_52 : decode cX8_isNumberGiven 52 = .ok (.iconst 1, 1) := by decide +kernel
theorem dX8_isNumberGiven_53 : decode cX8_isNumberGiven 53 = .ok (.goto 4, 3) := by decide +kernel
theorem dX8_isNumberGiven_56 : decode cX8_isNumberGiven 56 = .ok (.iconst 0, 1) := by decide +kernel
theorem dX8_isNumberGiven_57 : decode cX8_isNumberGiven 57 = .ok (.ior, 1) := by decide +kernel
theorem dX8_isNumberGiven_58 : decode cX8_isNumberGiven 58 = .ok (.istore_n 3, 1) := by decide +kernel
theorem dX8_isNumberGiven_59 : decode cX8_isNumberGiven 59 = .ok (.iinc 4 1, 3) := by decide +kernel
theorem dX8_isNumberGiven_62 : decode cX8_isNumberGiven 62 = .ok (.goto (-57), 3) := by decide +kernel
theorem dX8_isNumberGiven_65 : decode cX8_isNumberGiven 65 = .ok (.iload_n 3, 1) := by decide +kernel
theorem dX8_isNumberGiven_66 : decode cX8_isNumberGiven 66 = .ok (.ireturn, 1) := by decide +kernel
theorem dX8_lettered_0 : decode cX8_lettered 0 = .ok (.iload_n 3, 1) := by decide +kernel
theorem dX8_lettered_1 : decode cX8_lettered 1 = .ok (.istore 4, 2) := by decide +kernel
theorem dX8_lettered_3 : decode cX8_lettered 3 = .ok (.iload 4, 2) := by decide +kernel
theorem dX8_lettered_5 : decode cX8_lettered 5 = .ok (.bipush 10, 2) := by decide +kernel
theorem dX8_lettered_7 : decode cX8_lettered 7 = .ok (.if_icmp .ge 32, 3) := by decide +kernel
theorem dX8_lettered_10 : decode cX8_lettered 10 = .ok (.aload_n 0, 1) := by decide +kernel
theorem dX8_lettered_11 : decode cX8_lettered 11 = .ok (.iload_n 1, 1) := by decide +kernel
theorem dX8_lettered_12 : decode cX8_lettered 12 = .ok (.bipush 10, 2) := by decide +kernel
theorem dX8_lettered_14 : decode cX8_lettered 14 = .ok (.iload_n 2, 1) := by decide +kernel
theorem dX8_lettered_15 : decode cX8_lettered 15 = .ok (.imul, 1) := by decide +kernel
theorem dX8_lettered_16 : decode cX8_lettered 16 = .ok (.iload 4, 2) := by decide +kernel
theorem dX8_lettered_18 : decode cX8_lettered 18 = .ok (.iadd, 1) := by decide +kernel
theorem dX8_lettered_19 : decode cX8_lettered 19 = .ok (.invokevirtual 140, 3) := by decide +kernel
theorem dX8_lettered_22 : decode cX8_lettered 22 = .ok (.ifCond .ne 11, 3) := by decide +kernel
theorem dX8_lettered_25 : decode cX8_lettered 25 = .ok (.bipush 10, 2) := by decide +kernel
theorem dX8_lettered_27 : decode cX8_lettered 27 = .ok (.iload_n 2, 1) := by decide +kernel
theorem dX8_lettered_28 : decode cX8_lettered 28 = .ok (.imul, 1) := by decide +kernel
theorem dX8_lettered_29 : decode cX8_lettered 29 = .ok (.iload 4, 2) := by decide +kernel
theorem dX8_lettered_31 : decode cX8_lettered 31 = .ok (.iadd, 1) := by decide +kernel
theorem dX8_lettered_32 : decode cX8_lettered 32 = .ok (.ireturn, 1) := by decide +kernel
theorem dX8_lettered_33 : decode cX8_lettered 33 = .ok (.iinc 4 1, 3) := by decide +kernel
theorem dX8_lettered_36 : decode cX8_lettered 36 = .ok (.goto (-33), 3) := by decide +kernel
theorem dX8_lettered_39 : decode cX8_lettered 39 = .ok (.iconst (-1), 1) := by decide +kernel
theorem dX8_lettered_40 : decode cX8_lettered 40 = .ok (.ireturn, 1) := by decide +kernel
theorem dX8_comes_0 : decode cX8_comes 0 = .ok (.aload_n 0, 1) := by decide +kernel
theorem dX8_comes_1 : decode cX8_comes 1 = .ok (.iload_n 1, 1) := by decide +kernel
theorem dX8_comes_2 : decode cX8_comes 2 = .ok (.iload_n 3, 1) := by decide +kernel
theorem dX8_comes_3 : decode cX8_comes 3 = .ok (.invokevirtual 144, 3) := by decide +kernel
theorem dX8_comes_6 : decode cX8_comes 6 = .ok (.istore 5, 2) := by decide +kernel
theorem dX8_comes_8 : decode cX8_comes 8 = .ok (.aload_n 0, 1) := by decide +kernel
theorem dX8_comes_9 : decode cX8_comes 9 = .ok (.getfield 20, 3) := by decide +kernel
theorem dX8_comes_12 : decode cX8_comes 12 = .ok (.iload_n 1, 1) := by decide +kernel
theorem dX8_comes_13 : decode cX8_comes 13 = .ok (.caload, 1) := by decide +kernel
theorem dX8_comes_14 : decode cX8_comes 14 = .ok (.bipush 109, 2) := by decide +kernel
theorem dX8_comes_16 : decode cX8_comes 16 = .ok (.if_icmp .ne 30, 3) := by decide +kernel
theorem dX8_comes_19 : decode cX8_comes 19 = .ok (.aload_n 0, 1) := by decide +kernel
theorem dX8_comes_20 : decode cX8_comes 20 = .ok (.iload_n 1, 1) := by decide +kernel
theorem dX8_comes_21 : decode cX8_comes 21 = .ok (.iconst 2, 1) := by decide +kernel
theorem dX8_comes_22 : decode cX8_comes 22 = .ok (.iload 5, 2) := by decide +kernel
theorem dX8_comes_24 : decode cX8_comes 24 = .ok (.bipush 10, 2) := by decide +kernel
theorem dX8_comes_26 : decode cX8_comes 26 = .ok (.idiv, 1) := by decide +kernel
theorem dX8_comes_27 : decode cX8_comes 27 = .ok (.imul, 1) := by decide +kernel
theorem dX8_comes_28 : decode cX8_comes 28 = .ok (.iload 4, 2) := by decide +kernel
theorem dX8_comes_30 : decode cX8_comes 30 = .ok (.bipush 108, 2) := by decide +kernel
theorem dX8_comes_32 : decode cX8_comes 32 = .ok (.if_icmp .ne 7, 3) := by decide +kernel
theorem dX8_comes_35 : decode cX8_comes 35 = .ok (.iconst 1, 1) := by decide +kernel
theorem dX8_comes_36 : decode cX8_comes 36 = .ok (.goto 4, 3) := by decide +kernel
theorem dX8_comes_39 : decode cX8_comes 39 = .ok (.iconst 2, 1) := by decide +kernel
theorem dX8_comes_40 : decode cX8_comes 40 = .ok (.iadd, 1) := by decide +kernel
theorem dX8_comes_41 : decode cX8_comes 41 = .ok (.iconst 0, 1) := by decide +kernel
theorem dX8_comes_42 : decode cX8_comes 42 = .ok (.invokevirtual 147, 3) := by decide +kernel
theorem dX8_comes_45 : decode cX8_comes 45 = .ok (.ireturn, 1) := by decide +kernel
theorem dX8_comes_46 : decode cX8_comes 46 = .ok (.aload_n 0, 1) := by decide +kernel
theorem dX8_comes_47 : decode cX8_comes 47 = .ok (.getfield 20, 3) := by decide +kernel
theorem dX8_comes_50 : decode cX8_comes 50 = .ok (.iload_n 1, 1) := by decide +kernel
theorem dX8_comes_51 : decode cX8_comes 51 = .ok (.caload, 1) := by decide +kernel
theorem dX8_comes_52 : decode cX8_comes 52 = .ok (.bipush 121, 2) := by decide +kernel
theorem dX8_comes_54 : decode cX8_comes 54 = .ok (.if_icmp .ne 15, 3) := by decide +kernel
theorem dX8_comes_57 : decode cX8_comes 57 = .ok (.bipush 10, 2) := by decide +kernel
theorem dX8_comes_59 : decode cX8_comes 59 = .ok (.aload_n 0, 1) := by decide +kernel
theorem dX8_comes_60 : decode cX8_comes 60 = .ok (.getfield 31, 3) := by decide +kernel
theorem dX8_comes_63 : decode cX8_comes 63 = .ok (.iload_n 1, 1) := by decide +kernel
theorem dX8_comes_64 : decode cX8_comes 64 = .ok (.iaload, 1) := by decide +kernel
theorem dX8_comes_65 : decode cX8_comes 65 = .ok (.iconst 1, 1) := by decide +kernel
theorem dX8_comes_66 : decode cX8_comes 66 = .ok (.iadd, 1) := by decide +kernel
theorem dX8_comes_67 : decode cX8_comes 67 = .ok (.imul, 1) := by decide +kernel
theorem dX8_comes_68 : decode cX8_comes 68 = .ok (.ireturn, 1) := by decide +kernel
theorem dX8_comes_69 : decode cX8_comes 69 = .ok (.iconst (-1), 1) := by decide +kernel
theorem dX8_comes_70 : decode cX8_comes 70 = .ok (.istore 6, 2) := by decide +kernel
theorem dX8_comes_72 : decode cX8_comes 72 = .ok (.iconst (-1), 1) := by decide +kernel
theorem dX8_comes_73 : decode cX8_comes 73 = .ok (.istore 7, 2) := by decide +kernel
theorem dX8_comes_75 : decode cX8_comes 75 = .ok (.iconst 0, 1) := by decide +kernel
theorem dX8_comes_76 : decode cX8_comes 76 = .ok (.istore 8, 2) := by decide +kernel
theorem dX8_comes_78 : decode cX8_comes 78 = .ok (.iload 8, 2) := by decide +kernel
theorem dX8_comes_80 : decode cX8_comes 80 = .ok (.iconst 2, 1) := by decide +kernel
theorem dX8_comes_81 : decode cX8_comes 81 = .ok (.aload_n 0, 1) := by decide +kernel
theorem dX8_comes_82 : decode cX8_comes 82 = .ok (.getfield 90, 3) := by decide +kernel
theorem dX8_comes_85 : decode cX8_comes 85 = .ok (.imul, 1) := by decide +kernel
theorem dX8_comes_86 : decode cX8_comes 86 = .ok (.if_icmp .ge 138, 3) := by decide +kernel
theorem dX8_comes_89 : decode cX8_comes 89 = .ok (.aload_n 0, 1) := by decide +kernel
theorem dX8_comes_90 : decode cX8_comes 90 = .ok (.getfield 34, 3) := by decide +kernel
theorem dX8_comes_93 : decode cX8_comes 93 = .ok (.iload 8, 2) := by decide +kernel
theorem dX8_comes_95 : decode cX8_comes 95 = .ok (.iaload, 1) := by decide +kernel
theorem dX8_comes_96 : decode cX8_comes 96 = .ok (.iload_n 1, 1) := by decide +kernel
theorem dX8_comes_97 : decode cX8_comes 97 = .ok (.if_icmp .ne 121, 3) := by decide +kernel
theorem dX8_comes_100 : decode cX8_comes 100 = .ok (.aload_n 0, 1) := by decide +kernel
theorem dX8_comes_101 : decode cX8_comes 101 = .ok (.getfield 43, 3) := by decide +kernel
theorem dX8_comes_104 : decode cX8_comes 104 = .ok (.iload 8, 2) := by decide +kernel
theorem dX8_comes_106 : decode cX8_comes 106 = .ok (.iaload, 1) := by decide +kernel
theorem dX8_comes_107 : decode cX8_comes 107 = .ok (.ifCond .lt 111, 3) := by decide +kernel
theorem dX8_comes_110 : decode cX8_comes 110 = .ok (.aload_n 0, 1) := by decide +kernel
theorem dX8_comes_111 : decode cX8_comes 111 = .ok (.getfield 40, 3) := by decide +kernel
theorem dX8_comes_114 : decode cX8_comes 114 = .ok (.iload 8, 2) := by decide +kernel
theorem dX8_comes_116 : decode cX8_comes 116 = .ok (.caload, 1) := by decide +kernel
theorem dX8_comes_117 : decode cX8_comes 117 = .ok (.iload 4, 2) := by decide +kernel
theorem dX8_comes_119 : decode cX8_comes 119 = .ok (.if_icmp .eq 6, 3) := by decide +kernel
theorem dX8_comes_122 : decode cX8_comes 122 = .ok (.goto 96, 3) := by decide +kernel
theorem dX8_comes_125 : decode cX8_comes 125 = .ok (.aload_n 0, 1) := by decide +kernel
theorem dX8_comes_126 : decode cX8_comes 126 = .ok (.iload_n 1, 1) := by decide +kernel
theorem dX8_comes_127 : decode cX8_comes 127 = .ok (.aload_n 0, 1) := by decide +kernel
theorem dX8_comes_128 : decode cX8_comes 128 = .ok (.getfield 37, 3) := by decide +kernel
theorem dX8_comes_131 : decode cX8_comes 131 = .ok (.iload 8, 2) := by decide +kernel
theorem dX8_comes_133 : decode cX8_comes 133 = .ok (.iaload, 1) := by decide +kernel
theorem dX8_comes_134 : decode cX8_comes 134 = .ok (.invokevirtual 144, 3) := by decide +kernel
theorem dX8_comes_137 : decode cX8_comes 137 = .ok (.istore 9, 2) := by decide +kernel
theorem dX8_comes_139 : decode cX8_comes 139 = .ok (.iload 9, 2) := by decide +kernel
theorem dX8_comes_141 : decode cX8_comes 141 = .ok (.iload 5, 2) := by decide +kernel
theorem dX8_comes_143 : decode cX8_comes 143 = .ok (.if_icmp .lt 18, 3) := by decide +kernel
theorem dX8_comes_146 : decode cX8_comes 146 = .ok (.iload 9, 2) := by decide +kernel
theorem dX8_comes_148 : decode cX8_comes 148 = .ok (.iload 5, 2) := by decide +kernel
theorem dX8_comes_150 : decode cX8_comes 150 = .ok (.if_icmp .ne 41, 3) := by decide +kernel
theorem dX8_comes_153 : decode cX8_comes 153 = .ok (.iload 8, 2) := by decide +kernel
theorem dX8_comes_155 : decode cX8_comes 155 = .ok (.iconst 2, 1) := by decide +kernel
theorem dX8_comes_156 : decode cX8_comes 156 = .ok (.idiv, 1) := by decide +kernel
theorem dX8_comes_157 : decode cX8_comes 157 = .ok (.iload_n 2, 1) := by decide +kernel
theorem dX8_comes_158 : decode cX8_comes 158 = .ok (.if_icmp .ge 33, 3) := by decide +kernel
theorem dX8_comes_161 : decode cX8_comes 161 = .ok (.iload 6, 2) := by decide +kernel
theorem dX8_comes_163 : decode cX8_comes 163 = .ok (.iconst (-1), 1) := by decide +kernel
theorem dX8_comes_164 : decode cX8_comes 164 = .ok (.if_icmp .eq 15, 3) := by decide +kernel
theorem dX8_comes_167 : decode cX8_comes 167 = .ok (.aload_n 0, 1) := by decide +kernel
theorem dX8_comes_168 : decode cX8_comes 168 = .ok (.iload_n 1, 1) := by decide +kernel
theorem dX8_comes_169 : decode cX8_comes 169 = .ok (.iload 8, 2) := by decide +kernel
theorem dX8_comes_171 : decode cX8_comes 171 = .ok (.iload 6, 2) := by decide +kernel
theorem dX8_comes_173 : decode cX8_comes 173 = .ok (.invokevirtual 151, 3) := by decide +kernel
theorem dX8_comes_176 : decode cX8_comes 176 = .ok (.ifCond .eq 8, 3) := by decide +kernel
theorem dX8_comes_179 : decode cX8_comes 179 = .ok (.iload 8, 2) := by decide +kernel
theorem dX8_comes_181 : decode cX8_comes 181 = .ok (.goto 5, 3) := by decide +kernel
theorem dX8_comes_184 : decode cX8_comes 184 = .ok (.iload 6, 2) := by decide +kernel
theorem dX8_comes_186 : decode cX8_comes 186 = .ok (.istore 6, 2) := by decide +kernel
theorem dX8_comes_188 : decode cX8_comes 188 = .ok (.goto 30, 3) := by decide +kernel
theorem dX8_comes_191 : decode cX8_comes 191 = .ok (.iload 7, 2) := by decide +kernel
theorem dX8_comes_193 : decode cX8_comes 193 = .ok (.iconst (-1), 1) := by decide +kernel
theorem dX8_comes_194 : decode cX8_comes 194 = .ok (.if_icmp .eq 15, 3) := by decide +kernel
theorem dX8_comes_197 : decode cX8_comes 197 = .ok (.aload_n 0, 1) := by decide +kernel
theorem dX8_comes_198 : decode cX8_comes 198 = .ok (.iload_n 1, 1) := by decide +kernel
theorem dX8_comes_199 : decode cX8_comes 199 = .ok (.iload 7, 2) := by decide +kernel
theorem dX8_comes_201 : decode cX8_comes 201 = .ok (.iload 8, 2) := by decide +kernel
theorem dX8_comes_203 : decode cX8_comes 203 = .ok (.invokevirtual 151, 3) := by decide +kernel
theorem dX8_comes_206 : decode cX8_comes 206 = .ok (.ifCond .eq 8, 3) := by decide +kernel
theorem dX8_comes_209 : decode cX8_comes 209 = .ok (.iload 8, 2) := by decide +kernel
theorem dX8_comes_211 : decode cX8_comes 211 = .ok (.goto 5, 3) := by decide +kernel
theorem dX8_comes_214 : decode cX8_comes 214 = .ok (.iload 7, 2) := by decide +kernel
theorem dX8_comes_216 : decode cX8_comes 216 = .ok (.istore 7, 2) := by decide +kernel
theorem dX8_comes_218 : decode cX8_comes 218 = .ok (.iinc 8 1, 3) := by decide +kernel
theorem dX8_comes_221 : decode cX8_comes 221 = .ok (.goto (-143), 3) := by decide +kernel
theorem dX8_comes_224 : decode cX8_comes 224 = .ok (.iload 6, 2) := by decide +kernel
theorem dX8_comes_226 : decode cX8_comes 226 = .ok (.iconst (-1), 1) := by decide +kernel
theorem dX8_comes_227 : decode cX8_comes 227 = .ok (.if_icmp .ne 7, 3) := by decide +kernel
theorem dX8_comes_230 : decode cX8_comes 230 = .ok (.iconst 0, 1) := by decide +kernel
theorem dX8_comes_231 : decode cX8_comes 231 = .ok (.goto 13, 3) := by decide +kernel
theorem dX8_comes_234 : decode cX8_comes 234 = .ok (.aload_n 0, 1) := by decide +kernel
theorem dX8_comes_235 : decode cX8_comes 235 = .ok (.getfield 43, 3) := by decide +kernel
theorem dX8_comes_238 : decode cX8_comes 238 = .ok (.iload 6, 2) := by decide +kernel
theorem dX8_comes_240 : decode cX8_comes 240 = .ok (.iaload, 1) := by decide +kernel
theorem dX8_comes_241 : decode cX8_comes 241 = .ok (.bipush 10, 2) := by decide +kernel
theorem dX8_comes_243 : decode cX8_comes 243 = .ok (.idiv, 1) := by decide +kernel
theorem dX8_comes_244 : decode cX8_comes 244 = .ok (.istore 8, 2) := by decide +kernel
theorem dX8_comes_246 : decode cX8_comes 246 = .ok (.iload 4, 2) := by decide +kernel
theorem dX8_comes_248 : decode cX8_comes 248 = .ok (.bipush 108, 2) := by decide +kernel
theorem dX8_comes_250 : decode cX8_comes 250 = .ok (.if_icmp .ne 7, 3) := by decide +kernel
theorem dX8_comes_253 : decode cX8_comes 253 = .ok (.iconst 1, 1) := by decide +kernel
theorem dX8_comes_254 : decode cX8_comes 254 = .ok (.goto 4, 3) := by decide +kernel
theorem dX8_comes_257 : decode cX8_comes 257 = .ok (.iconst 2, 1) := by decide +kernel
theorem dX8_comes_258 : decode cX8_comes 258 = .ok (.istore 9, 2) := by decide +kernel
theorem dX8_comes_260 : decode cX8_comes 260 = .ok (.iload 9, 2) := by decide +kernel
theorem dX8_comes_262 : decode cX8_comes 262 = .ok (.iload 8, 2) := by decide +kernel
theorem dX8_comes_264 : decode cX8_comes 264 = .ok (.if_icmp .le 13, 3) := by decide +kernel
theorem dX8_comes_267 : decode cX8_comes 267 = .ok (.aload_n 0, 1) := by decide +kernel
theorem dX8_comes_268 : decode cX8_comes 268 = .ok (.iload_n 1, 1) := by decide +kernel
