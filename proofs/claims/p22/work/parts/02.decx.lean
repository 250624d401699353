theorem dX0_init_0 : decode cX0_init 0 = .ok (.aload_n 0, 1) := by decide +kernel
theorem dX0_init_1 : decode cX0_init 1 = .ok (.invokespecial 3, 3) := by decide +kernel
theorem dX0_init_4 : decode cX0_init 4 = .ok (.return_, 1) := by decide +kernel
theorem dX0_end_0 : decode cX0_end 0 = .ok (.aload_n 0, 1) := by decide +kernel
theorem dX0_end_1 : decode cX0_end 1 = .ok (.getfield 9, 3) := by decide +kernel
theorem dX0_end_4 : decode cX0_end 4 = .ok (.aload_n 0, 1) := by decide +kernel
theorem dX0_end_5 : decode cX0_end 5 = .ok (.getfield 15, 3) := by decide +kernel
theorem dX0_end_8 : decode cX0_end 8 = .ok (.iadd, 1) := by decide +kernel
theorem dX0_end_9 : decode cX0_end 9 = .ok (.ireturn, 1) := by decide +kernel
theorem dX0_playsAt_0 : decode cX0_playsAt 0 = .ok (.aload_n 0, 1) := by decide +kernel
theorem dX0_playsAt_1 : decode cX0_playsAt 1 = .ok (.getfield 18, 3) := by decide +kernel
theorem dX0_playsAt_4 : decode cX0_playsAt 4 = .ok (.ifCond .eq 28, 3) := by decide +kernel
theorem dX0_playsAt_7 : decode cX0_playsAt 7 = .ok (.iload_n 1, 1) := by decide +kernel
theorem dX0_playsAt_8 : decode cX0_playsAt 8 = .ok (.aload_n 0, 1) := by decide +kernel
theorem dX0_playsAt_9 : decode cX0_playsAt 9 = .ok (.getfield 9, 3) := by decide +kernel
theorem dX0_playsAt_12 : decode cX0_playsAt 12 = .ok (.if_icmp .lt 20, 3) := by decide +kernel
theorem dX0_playsAt_15 : decode cX0_playsAt 15 = .ok (.iload_n 1, 1) := by decide +kernel
theorem dX0_playsAt_16 : decode cX0_playsAt 16 = .ok (.aload_n 0, 1) := by decide +kernel
theorem dX0_playsAt_17 : decode cX0_playsAt 17 = .ok (.getfield 9, 3) := by decide +kernel
theorem dX0_playsAt_20 : decode cX0_playsAt 20 = .ok (.aload_n 0, 1) := by decide +kernel
theorem dX0_playsAt_21 : decode cX0_playsAt 21 = .ok (.getfield 15, 3) := by decide +kernel
theorem dX0_playsAt_24 : decode cX0_playsAt 24 = .ok (.iadd, 1) := by decide +kernel
theorem dX0_playsAt_25 : decode cX0_playsAt 25 = .ok (.if_icmp .ge 7, 3) := by decide +kernel
theorem dX0_playsAt_28 : decode cX0_playsAt 28 = .ok (.iconst 1, 1) := by decide +kernel
theorem dX0_playsAt_29 : decode cX0_playsAt 29 = .ok (.goto 4, 3) := by decide +kernel
theorem dX0_playsAt_32 : decode cX0_playsAt 32 = .ok (.iconst 0, 1) := by decide +kernel
theorem dX0_playsAt_33 : decode cX0_playsAt 33 = .ok (.ireturn, 1) := by decide +kernel
theorem dX0_isTooNear_0 : decode cX0_isTooNear 0 = .ok (.aload_n 0, 1) := by decide +kernel
theorem dX0_isTooNear_1 : decode cX0_isTooNear 1 = .ok (.getfield 9, 3) := by decide +kernel
theorem dX0_isTooNear_4 : decode cX0_isTooNear 4 = .ok (.aload_n 1, 1) := by decide +kernel
theorem dX0_isTooNear_5 : decode cX0_isTooNear 5 = .ok (.invokevirtual 22, 3) := by decide +kernel
theorem dX0_isTooNear_8 : decode cX0_isTooNear 8 = .ok (.iload_n 2, 1) := by decide +kernel
theorem dX0_isTooNear_9 : decode cX0_isTooNear 9 = .ok (.iadd, 1) := by decide +kernel
theorem dX0_isTooNear_10 : decode cX0_isTooNear 10 = .ok (.if_icmp .ge 20, 3) := by decide +kernel
theorem dX0_isTooNear_13 : decode cX0_isTooNear 13 = .ok (.aload_n 1, 1) := by decide +kernel
theorem dX0_isTooNear_14 : decode cX0_isTooNear 14 = .ok (.getfield 9, 3) := by decide +kernel
theorem dX0_isTooNear_17 : decode cX0_isTooNear 17 = .ok (.aload_n 0, 1) := by decide +kernel
theorem dX0_isTooNear_18 : decode cX0_isTooNear 18 = .ok (.invokevirtual 22, 3) := by decide +kernel
theorem dX0_isTooNear_21 : decode cX0_isTooNear 21 = .ok (.iload_n 2, 1) := by decide +kernel
theorem dX0_isTooNear_22 : decode cX0_isTooNear 22 = .ok (.iadd, 1) := by decide +kernel
theorem dX0_isTooNear_23 : decode cX0_isTooNear 23 = .ok (.if_icmp .ge 7, 3) := by decide +kernel
theorem dX0_isTooNear_26 : decode cX0_isTooNear 26 = .ok (.iconst 1, 1) := by decide +kernel
theorem dX0_isTooNear_27 : decode cX0_isTooNear 27 = .ok (.goto 4, 3) := by decide +kernel
theorem dX0_isTooNear_30 : decode cX0_isTooNear 30 = .ok (.iconst 0, 1) := by decide +kernel
theorem dX0_isTooNear_31 : decode cX0_isTooNear 31 = .ok (.ireturn, 1) := by decide +kernel
theorem dX0_take_0 : decode cX0_take 0 = .ok (.aload_n 0, 1) := by decide +kernel
theorem dX0_take_1 : decode cX0_take 1 = .ok (.aload_n 0, 1) := by decide +kernel
theorem dX0_take_2 : decode cX0_take 2 = .ok (.getfield 26, 3) := by decide +kernel
theorem dX0_take_5 : decode cX0_take 5 = .ok (.aload_n 1, 1) := by decide +kernel
theorem dX0_take_6 : decode cX0_take 6 = .ok (.getfield 29, 3) := by decide +kernel
theorem dX0_take_9 : decode cX0_take 9 = .ok (.iadd, 1) := by decide +kernel
theorem dX0_take_10 : decode cX0_take 10 = .ok (.invokestatic 34, 3) := by decide +kernel
theorem dX0_take_13 : decode cX0_take 13 = .ok (.putfield 26, 3) := by decide +kernel
theorem dX0_take_16 : decode cX0_take 16 = .ok (.aload_n 0, 1) := by decide +kernel
theorem dX0_take_17 : decode cX0_take 17 = .ok (.aload_n 0, 1) := by decide +kernel
theorem dX0_take_18 : decode cX0_take 18 = .ok (.getfield 38, 3) := by decide +kernel
theorem dX0_take_21 : decode cX0_take 21 = .ok (.aload_n 1, 1) := by decide +kernel
theorem dX0_take_22 : decode cX0_take 22 = .ok (.getfield 41, 3) := by decide +kernel
theorem dX0_take_25 : decode cX0_take 25 = .ok (.iadd, 1) := by decide +kernel
theorem dX0_take_26 : decode cX0_take 26 = .ok (.invokestatic 34, 3) := by decide +kernel
theorem dX0_take_29 : decode cX0_take 29 = .ok (.putfield 38, 3) := by decide +kernel
theorem dX0_take_32 : decode cX0_take 32 = .ok (.aload_n 1, 1) := by decide +kernel
theorem dX0_take_33 : decode cX0_take 33 = .ok (.getfield 44, 3) := by decide +kernel
theorem dX0_take_36 : decode cX0_take 36 = .ok (.ifCond .eq 26, 3) := by decide +kernel
theorem dX0_take_39 : decode cX0_take 39 = .ok (.aload_n 0, 1) := by decide +kernel
theorem dX0_take_40 : decode cX0_take 40 = .ok (.aload_n 0, 1) := by decide +kernel
theorem dX0_take_41 : decode cX0_take 41 = .ok (.getfield 47, 3) := by decide +kernel
theorem dX0_take_44 : decode cX0_take 44 = .ok (.bipush 31, 2) := by decide +kernel
theorem dX0_take_46 : decode cX0_take 46 = .ok (.if_icmp .lt 7, 3) := by decide +kernel
theorem dX0_take_49 : decode cX0_take 49 = .ok (.iconst (-1), 1) := by decide +kernel
theorem dX0_take_50 : decode cX0_take 50 = .ok (.goto 9, 3) := by decide +kernel
theorem dX0_take_53 : decode cX0_take 53 = .ok (.aload_n 0, 1) := by decide +kernel
theorem dX0_take_54 : decode cX0_take 54 = .ok (.getfield 47, 3) := by decide +kernel
theorem dX0_take_57 : decode cX0_take 57 = .ok (.iconst 1, 1) := by decide +kernel
theorem dX0_take_58 : decode cX0_take 58 = .ok (.iadd, 1) := by decide +kernel
theorem dX0_take_59 : decode cX0_take 59 = .ok (.putfield 47, 3) := by decide +kernel
theorem dX0_take_62 : decode cX0_take 62 = .ok (.return_, 1) := by decide +kernel
theorem dX0_withinStrength_0 : decode cX0_withinStrength 0 = .ok (.iconst 0, 1) := by decide +kernel
theorem dX0_withinStrength_1 : decode cX0_withinStrength 1 = .ok (.iload_n 0, 1) := by decide +kernel
theorem dX0_withinStrength_2 : decode cX0_withinStrength 2 = .ok (.sipush 200, 3) := by decide +kernel
theorem dX0_withinStrength_5 : decode cX0_withinStrength 5 = .ok (.invokestatic 50, 3) := by decide +kernel
theorem dX0_withinStrength_8 : decode cX0_withinStrength 8 = .ok (.invokestatic 56, 3) := by decide +kernel
theorem dX0_withinStrength_11 : decode cX0_withinStrength 11 = .ok (.ireturn, 1) := by decide +kernel
theorem dX1_init_0 : decode cX1_init 0 = .ok (.aload_n 0, 1) := by decide +kernel
theorem dX1_init_1 : decode cX1_init 1 = .ok (.invokespecial 3, 3) := by decide +kernel
theorem dX1_init_4 : decode cX1_init 4 = .ok (.aload_n 0, 1) := by decide +kernel
theorem dX1_init_5 : decode cX1_init 5 = .ok (.iconst (-1), 1) := by decide +kernel
theorem dX1_init_6 : decode cX1_init 6 = .ok (.putfield 9, 3) := by decide +kernel
theorem dX1_init_9 : decode cX1_init 9 = .ok (.return_, 1) := by decide +kernel
theorem dX1_hits_0 : decode cX1_hits 0 = .ok (.aload_n 0, 1) := by decide +kernel
theorem dX1_hits_1 : decode cX1_hits 1 = .ok (.getfield 9, 3) := by decide +kernel
theorem dX1_hits_4 : decode cX1_hits 4 = .ok (.aload_n 1, 1) := by decide +kernel
theorem dX1_hits_5 : decode cX1_hits 5 = .ok (.getfield 15, 3) := by decide +kernel
theorem dX1_hits_8 : decode cX1_hits 8 = .ok (.if_icmp .ne 29, 3) := by decide +kernel
theorem dX1_hits_11 : decode cX1_hits 11 = .ok (.aload_n 1, 1) := by decide +kernel
theorem dX1_hits_12 : decode cX1_hits 12 = .ok (.getfield 18, 3) := by decide +kernel
theorem dX1_hits_15 : decode cX1_hits 15 = .ok (.aload_n 0, 1) := by decide +kernel
theorem dX1_hits_16 : decode cX1_hits 16 = .ok (.getfield 21, 3) := by decide +kernel
theorem dX1_hits_19 : decode cX1_hits 19 = .ok (.if_icmp .ge 18, 3) := by decide +kernel
theorem dX1_hits_22 : decode cX1_hits 22 = .ok (.aload_n 0, 1) := by decide +kernel
theorem dX1_hits_23 : decode cX1_hits 23 = .ok (.getfield 24, 3) := by decide +kernel
theorem dX1_hits_26 : decode cX1_hits 26 = .ok (.aload_n 1, 1) := by decide +kernel
theorem dX1_hits_27 : decode cX1_hits 27 = .ok (.invokevirtual 27, 3) := by decide +kernel
theorem dX1_hits_30 : decode cX1_hits 30 = .ok (.if_icmp .ge 7, 3) := by decide +kernel
theorem dX1_hits_33 : decode cX1_hits 33 = .ok (.iconst 1, 1) := by decide +kernel
theorem dX1_hits_34 : decode cX1_hits 34 = .ok (.goto 4, 3) := by decide +kernel
theorem dX1_hits_37 : decode cX1_hits 37 = .ok (.iconst 0, 1) := by decide +kernel
theorem dX1_hits_38 : decode cX1_hits 38 = .ok (.ireturn, 1) := by decide +kernel
theorem dX3_init_0 : decode cX3_init 0 = .ok (.aload_n 0, 1) := by decide +kernel
theorem dX3_init_1 : decode cX3_init 1 = .ok (.invokespecial 1, 3) := by decide +kernel
theorem dX3_init_4 : decode cX3_init 4 = .ok (.aload_n 0, 1) := by decide +kernel
theorem dX3_init_5 : decode cX3_init 5 = .ok (.bipush 6, 2) := by decide +kernel
theorem dX3_init_7 : decode cX3_init 7 = .ok (.newarray .int, 2) := by decide +kernel
theorem dX3_init_9 : decode cX3_init 9 = .ok (.putfield 9, 3) := by decide +kernel
theorem dX3_init_12 : decode cX3_init 12 = .ok (.aload_n 0, 1) := by decide +kernel
theorem dX3_init_13 : decode cX3_init 13 = .ok (.iconst 3, 1) := by decide +kernel
theorem dX3_init_14 : decode cX3_init 14 = .ok (.newarray .int, 2) := by decide +kernel
theorem dX3_init_16 : decode cX3_init 16 = .ok (.putfield 13, 3) := by decide +kernel
theorem dX3_init_19 : decode cX3_init 19 = .ok (.aload_n 0, 1) := by decide +kernel
theorem dX3_init_20 : decode cX3_init 20 = .ok (.iconst 3, 1) := by decide +kernel
theorem dX3_init_21 : decode cX3_init 21 = .ok (.newarray .int, 2) := by decide +kernel
theorem dX3_init_23 : decode cX3_init 23 = .ok (.putfield 16, 3) := by decide +kernel
theorem dX3_init_26 : decode cX3_init 26 = .ok (.aload_n 0, 1) := by decide +kernel
theorem dX3_init_27 : decode cX3_init 27 = .ok (.bipush 17, 2) := by decide +kernel
theorem dX3_init_29 : decode cX3_init 29 = .ok (.newarray .int, 2) := by decide +kernel
theorem dX3_init_31 : decode cX3_init 31 = .ok (.putfield 19, 3) := by decide +kernel
theorem dX3_init_34 : decode cX3_init 34 = .ok (.aload_n 0, 1) := by decide +kernel
theorem dX3_init_35 : decode cX3_init 35 = .ok (.bipush 16, 2) := by decide +kernel
theorem dX3_init_37 : decode cX3_init 37 = .ok (.anewarray 22, 3) := by decide +kernel
theorem dX3_init_40 : decode cX3_init 40 = .ok (.putfield 24, 3) := by decide +kernel
theorem dX3_init_43 : decode cX3_init 43 = .ok (.aload_n 0, 1) := by decide +kernel
theorem dX3_init_44 : decode cX3_init 44 = .ok (.new 28, 3) := by decide +kernel
theorem dX3_init_47 : decode cX3_init 47 = .ok (.dup, 1) := by decide +kernel
theorem dX3_init_48 : decode cX3_init 48 = .ok (.invokespecial 30, 3) := by decide +kernel
theorem dX3_init_51 : decode cX3_init 51 = .ok (.putfield 31, 3) := by decide +kernel
theorem dX3_init_54 : decode cX3_init 54 = .ok (.aload_n 0, 1) := by decide +kernel
theorem dX3_init_55 : decode cX3_init 55 = .ok (.iconst 5, 1) := by decide +kernel
theorem dX3_init_56 : decode cX3_init 56 = .ok (.anewarray 35, 3) := by decide +kernel
theorem dX3_init_59 : decode cX3_init 59 = .ok (.putfield 37, 3) := by decide +kernel
theorem dX3_init_62 : decode cX3_init 62 = .ok (.aload_n 0, 1) := by decide +kernel
theorem dX3_init_63 : decode cX3_init 63 = .ok (.iconst 3, 1) := by decide +kernel
theorem dX3_init_64 : decode cX3_init 64 = .ok (.newarray .int, 2) := by decide +kernel
theorem dX3_init_66 : decode cX3_init 66 = .ok (.putfield 41, 3) := by decide +kernel
theorem dX3_init_69 : decode cX3_init 69 = .ok (.aload_n 0, 1) := by decide +kernel
theorem dX3_init_70 : decode cX3_init 70 = .ok (.iconst 3, 1) := by decide +kernel
theorem dX3_init_71 : decode cX3_init 71 = .ok (.newarray .int, 2) := by decide +kernel
theorem dX3_init_73 : decode cX3_init 73 = .ok (.putfield 44, 3) := by decide +kernel
theorem dX3_init_76 : decode cX3_init 76 = .ok (.aload_n 0, 1) := by decide +kernel
theorem dX3_init_77 : decode cX3_init 77 = .ok (.getfield 16, 3) := by decide +kernel
theorem dX3_init_80 : decode cX3_init 80 = .ok (.bipush 60, 2) := by decide +kernel
theorem dX3_init_82 : decode cX3_init 82 = .ok (.invokestatic 47, 3) := by decide +kernel
theorem dX3_init_85 : decode cX3_init 85 = .ok (.iconst 0, 1) := by decide +kernel
theorem dX3_init_86 : decode cX3_init 86 = .ok (.istore_n 1, 1) := by decide +kernel
theorem dX3_init_87 : decode cX3_init 87 = .ok (.iload_n 1, 1) := by decide +kernel
theorem dX3_init_88 : decode cX3_init 88 = .ok (.bipush 16, 2) := by decide +kernel
theorem dX3_init_90 : decode cX3_init 90 = .ok (.if_icmp .ge 22, 3) := by decide +kernel
theorem dX3_init_93 : decode cX3_init 93 = .ok (.aload_n 0, 1) := by decide +kernel
theorem dX3_init_94 : decode cX3_init 94 = .ok (.getfield 24, 3) := by decide +kernel
theorem dX3_init_97 : decode cX3_init 97 = .ok (.iload_n 1, 1) := by decide +kernel
theorem dX3_init_98 : decode cX3_init 98 = .ok (.new 22, 3) := by decide +kernel
theorem dX3_init_101 : decode cX3_init 101 = .ok (.dup, 1) := by decide +kernel
theorem dX3_init_102 : decode cX3_init 102 = .ok (.invokespecial 53, 3) := by decide +kernel
theorem dX3_init_105 : decode cX3_init 105 = .ok (.aastore, 1) := by decide +kernel
theorem dX3_init_106 : decode cX3_init 106 = .ok (.iinc 1 1, 3) := by decide +kernel
theorem dX3_init_109 : decode cX3_init 109 = .ok (.goto (-22), 3) := by decide +kernel
theorem dX3_init_112 : decode cX3_init 112 = .ok (.iconst 0, 1) := by decide +kernel
theorem dX3_init_113 : decode cX3_init 113 = .ok (.istore_n 1, 1) := by decide +kernel
theorem dX3_init_114 : decode cX3_init 114 = .ok (.iload_n 1, 1) := by decide +kernel
theorem dX3_init_115 : decode cX3_init 115 = .ok (.iconst 5, 1) := by decide +kernel
theorem dX3_init_116 : decode cX3_init 116 = .ok (.if_icmp .ge 22, 3) := by decide +kernel
theorem dX3_init_119 : decode cX3_init 119 = .ok (.aload_n 0, 1) := by decide +kernel
theorem dX3_init_120 : decode cX3_init 120 = .ok (.getfield 37, 3) := by decide +kernel
theorem dX3_init_123 : decode cX3_init 123 = .ok (.iload_n 1, 1) := by decide +kernel
theorem dX3_init_124 : decode cX3_init 124 = .ok (.new 35, 3) := by decide +kernel
theorem dX3_init_127 : decode cX3_init 127 = .ok (.dup, 1) := by decide +kernel
theorem dX3_init_128 : decode cX3_init 128 = .ok (.invokespecial 54, 3) := by decide +kernel
theorem dX3_init_131 : decode cX3_init 131 = .ok (.aastore, 1) := by decide +kernel
theorem dX3_init_132 : decode cX3_init 132 = .ok (.iinc 1 1, 3) := by decide +kernel
theorem dX3_init_135 : decode cX3_init 135 = .ok (.goto (-21), 3) := by decide +kernel
theorem dX3_init_138 : decode cX3_init 138 = .ok (.return_, 1) := by decide +kernel
theorem dX3_startSet_0 : decode cX3_startSet 0 = .ok (.iload_n 1, 1) := by decide +kernel
theorem dX3_startSet_1 : decode cX3_startSet 1 = .ok (.invokestatic 55, 3) := by decide +kernel
theorem dX3_startSet_4 : decode cX3_startSet 4 = .ok (.aload_n 0, 1) := by decide +kernel
theorem dX3_startSet_5 : decode cX3_startSet 5 = .ok (.getfield 59, 3) := by decide +kernel
theorem dX3_startSet_8 : decode cX3_startSet 8 = .ok (.bipush 6, 2) := by decide +kernel
theorem dX3_startSet_10 : decode cX3_startSet 10 = .ok (.if_icmp .lt 13, 3) := by decide +kernel
theorem dX3_startSet_13 : decode cX3_startSet 13 = .ok (.new 63, 3) := by decide +kernel
theorem dX3_startSet_16 : decode cX3_startSet 16 = .ok (.dup, 1) := by decide +kernel
theorem dX3_startSet_17 : decode cX3_startSet 17 = .ok (.ldc 65, 2) := by decide +kernel
theorem dX3_startSet_19 : decode cX3_startSet 19 = .ok (.invokespecial 67, 3) := by decide +kernel
theorem dX3_startSet_22 : decode cX3_startSet 22 = .ok (.athrow, 1) := by decide +kernel
theorem dX3_startSet_23 : decode cX3_startSet 23 = .ok (.iconst 0, 1) := by decide +kernel
theorem dX3_startSet_24 : decode cX3_startSet 24 = .ok (.istore_n 2, 1) := by decide +kernel
theorem dX3_startSet_25 : decode cX3_startSet 25 = .ok (.iload_n 2, 1) := by decide +kernel
theorem dX3_startSet_26 : decode cX3_startSet 26 = .ok (.aload_n 0, 1) := by decide +kernel
theorem dX3_startSet_27 : decode cX3_startSet 27 = .ok (.getfield 59, 3) := by decide +kernel
theorem dX3_startSet_30 : decode cX3_startSet 30 = .ok (.if_icmp .ge 27, 3) := by decide +kernel
theorem dX3_startSet_33 : decode cX3_startSet 33 = .ok (.aload_n 0, 1) := by decide +kernel
theorem dX3_startSet_34 : decode cX3_startSet 34 = .ok (.getfield 9, 3) := by decide +kernel
theorem dX3_startSet_37 : decode cX3_startSet 37 = .ok (.iload_n 2, 1) := by decide +kernel
theorem dX3_startSet_38 : decode cX3_startSet 38 = .ok (.iaload, 1) := by decide +kernel
theorem dX3_startSet_39 : decode cX3_startSet 39 = .ok (.iload_n 1, 1) := by decide +kernel
theorem dX3_startSet_40 : decode cX3_startSet 40 = .ok (.isub, 1) := by decide +kernel
theorem dX3_startSet_41 : decode cX3_startSet 41 = .ok (.invokestatic 70, 3) := by decide +kernel
theorem dX3_startSet_44 : decode cX3_startSet 44 = .ok (.bipush 10, 2) := by decide +kernel
theorem dX3_startSet_46 : decode cX3_startSet 46 = .ok (.if_icmp .ge 5, 3) := by decide +kernel
theorem dX3_startSet_49 : decode cX3_startSet 49 = .ok (.iconst (-1), 1) := by decide +kernel
theorem dX3_startSet_50 : decode cX3_startSet 50 = .ok (.ireturn, 1) := by decide +kernel
theorem dX3_startSet_51 : decode cX3_startSet 51 = .ok (.iinc 2 1, 3) := by decide +kernel
theorem dX3_startSet_54 : decode cX3_startSet 54 = .ok (.goto (-29), 3) := by decide +kernel
theorem dX3_startSet_57 : decode cX3_startSet 57 = .ok (.aload_n 0, 1) := by decide +kernel
theorem dX3_startSet_58 : decode cX3_startSet 58 = .ok (.getfield 9, 3) := by decide +kernel
theorem dX3_startSet_61 : decode cX3_startSet 61 = .ok (.aload_n 0, 1) := by decide +kernel
theorem dX3_startSet_62 : decode cX3_startSet 62 = .ok (.getfield 59, 3) := by decide +kernel
theorem dX3_startSet_65 : decode cX3_startSet 65 = .ok (.iload_n 1, 1) := by decide +kernel
theorem dX3_startSet_66 : decode cX3_startSet 66 = .ok (.iastore, 1) := by decide +kernel
theorem dX3_startSet_67 : decode cX3_startSet 67 = .ok (.aload_n 0, 1) := by decide +kernel
theorem dX3_startSet_68 : decode cX3_startSet 68 = .ok (.dup, 1) := by decide +kernel
theorem dX3_startSet_69 : decode cX3_startSet 69 = .ok (.getfield 59, 3) := by decide +kernel
theorem dX3_startSet_72 : decode cX3_startSet 72 = .ok (.iconst 1, 1) := by decide +kernel
theorem dX3_startSet_73 : decode cX3_startSet 73 = .ok (.iadd, 1) := by decide +kernel
theorem dX3_startSet_74 : decode cX3_startSet 74 = .ok (.putfield 59, 3) := by decide +kernel
theorem dX3_startSet_77 : decode cX3_startSet 77 = .ok (.aload_n 0, 1) := by decide +kernel
theorem dX3_startSet_78 : decode cX3_startSet 78 = .ok (.getfield 59, 3) := by decide +kernel
theorem dX3_startSet_81 : decode cX3_startSet 81 = .ok (.ireturn, 1) := by decide +kernel
theorem dX3_setChange_0 : decode cX3_setChange 0 = .ok (.iload_n 1, 1) := by decide +kernel
theorem dX3_setChange_1 : decode cX3_setChange 1 = .ok (.invokestatic 76, 3) := by decide +kernel
theorem dX3_setChange_4 : decode cX3_setChange 4 = .ok (.iload_n 2, 1) := by decide +kernel
theorem dX3_setChange_5 : decode cX3_setChange 5 = .ok (.iconst 0, 1) := by decide +kernel
theorem dX3_setChange_6 : decode cX3_setChange 6 = .ok (.bipush 60, 2) := by decide +kernel
theorem dX3_setChange_8 : decode cX3_setChange 8 = .ok (.invokestatic 79, 3) := by decide +kernel
theorem dX3_setChange_11 : decode cX3_setChange 11 = .ok (.aload_n 0, 1) := by decide +kernel
theorem dX3_setChange_12 : decode cX3_setChange 12 = .ok (.getfield 13, 3) := by decide +kernel
theorem dX3_setChange_15 : decode cX3_setChange 15 = .ok (.iload_n 1, 1) := by decide +kernel
theorem dX3_setChange_16 : decode cX3_setChange 16 = .ok (.iaload, 1) := by decide +kernel
theorem dX3_setChange_17 : decode cX3_setChange 17 = .ok (.istore_n 3, 1) := by decide +kernel
theorem dX3_setChange_18 : decode cX3_setChange 18 = .ok (.aload_n 0, 1) := by decide +kernel
theorem dX3_setChange_19 : decode cX3_setChange 19 = .ok (.getfield 13, 3) := by decide +kernel
theorem dX3_setChange_22 : decode cX3_setChange 22 = .ok (.iload_n 1, 1) := by decide +kernel
theorem dX3_setChange_23 : decode cX3_setChange 23 = .ok (.iload_n 2, 1) := by decide +kernel
theorem dX3_setChange_24 : decode cX3_setChange 24 = .ok (.iastore, 1) := by decide +kernel
theorem dX3_setChange_25 : decode cX3_setChange 25 = .ok (.aload_n 0, 1) := by decide +kernel
theorem dX3_setChange_26 : decode cX3_setChange 26 = .ok (.iload_n 1, 1) := by decide +kernel
theorem dX3_setChange_27 : decode cX3_setChange 27 = .ok (.invokevirtual 83, 3) := by decide +kernel
theorem dX3_setChange_30 : decode cX3_setChange 30 = .ok (.ifCond .eq 5, 3) := by decide +kernel
theorem dX3_setChange_33 : decode cX3_setChange 33 = .ok (.iconst 1, 1) := by decide +kernel
theorem dX3_setChange_34 : decode cX3_setChange 34 = .ok (.ireturn, 1) := by decide +kernel
theorem dX3_setChange_35 : decode cX3_setChange 35 = .ok (.aload_n 0, 1) := by decide +kernel
theorem dX3_setChange_36 : decode cX3_setChange 36 = .ok (.getfield 13, 3) := by decide +kernel
theorem dX3_setChange_39 : decode cX3_setChange 39 = .ok (.iload_n 1, 1) := by decide +kernel
theorem dX3_setChange_40 : decode cX3_setChange 40 = .ok (.iload_n 3, 1) := by decide +kernel
theorem dX3_setChange_41 : decode cX3_setChange 41 = .ok (.iastore, 1) := by decide +kernel
theorem dX3_setChange_42 : decode cX3_setChange 42 = .ok (.iconst 0, 1) := by decide +kernel
theorem dX3_setChange_43 : decode cX3_setChange 43 = .ok (.ireturn, 1) := by decide +kernel
theorem dX3_setBound_0 : decode cX3_setBound 0 = .ok (.iload_n 1, 1) := by decide +kernel
theorem dX3_setBound_1 : decode cX3_setBound 1 = .ok (.invokestatic 87, 3) := by decide +kernel
theorem dX3_setBound_4 : decode cX3_setBound 4 = .ok (.iload_n 2, 1) := by decide +kernel
theorem dX3_setBound_5 : decode cX3_setBound 5 = .ok (.bipush 10, 2) := by decide +kernel
theorem dX3_setBound_7 : decode cX3_setBound 7 = .ok (.sipush 300, 3) := by decide +kernel
theorem dX3_setBound_10 : decode cX3_setBound 10 = .ok (.invokestatic 79, 3) := by decide +kernel
theorem dX3_setBound_13 : decode cX3_setBound 13 = .ok (.aload_n 0, 1) := by decide +kernel
theorem dX3_setBound_14 : decode cX3_setBound 14 = .ok (.getfield 16, 3) := by decide +kernel
theorem dX3_setBound_17 : decode cX3_setBound 17 = .ok (.iload_n 1, 1) := by decide +kernel
theorem dX3_setBound_18 : decode cX3_setBound 18 = .ok (.iaload, 1) := by decide +kernel
theorem dX3_setBound_19 : decode cX3_setBound 19 = .ok (.istore_n 3, 1) := by decide +kernel
theorem dX3_setBound_20 : decode cX3_setBound 20 = .ok (.aload_n 0, 1) := by decide +kernel
theorem dX3_setBound_21 : decode cX3_setBound 21 = .ok (.getfield 16, 3) := by decide +kernel
theorem dX3_setBound_24 : decode cX3_setBound 24 = .ok (.iload_n 1, 1) := by decide +kernel
theorem dX3_setBound_25 : decode cX3_setBound 25 = .ok (.iload_n 2, 1) := by decide +kernel
theorem dX3_setBound_26 : decode cX3_setBound 26 = .ok (.iastore, 1) := by decide +kernel
theorem dX3_setBound_27 : decode cX3_setBound 27 = .ok (.aload_n 0, 1) := by decide +kernel
theorem dX3_setBound_28 : decode cX3_setBound 28 = .ok (.iconst 0, 1) := by decide +kernel
theorem dX3_setBound_29 : decode cX3_setBound 29 = .ok (.sipush 1000, 3) := by decide +kernel
theorem dX3_setBound_32 : decode cX3_setBound 32 = .ok (.invokevirtual 90, 3) := by decide +kernel
theorem dX3_setBound_35 : decode cX3_setBound 35 = .ok (.ifCond .ne 5, 3) := by decide +kernel
theorem dX3_setBound_38 : decode cX3_setBound 38 = .ok (.iconst 1, 1) := by decide +kernel
theorem dX3_setBound_39 : decode cX3_setBound 39 = .ok (.ireturn, 1) := by decide +kernel
theorem dX3_setBound_40 : decode cX3_setBound 40 = .ok (.aload_n 0, 1) := by decide +kernel
theorem dX3_setBound_41 : decode cX3_setBound 41 = .ok (.getfield 16, 3) := by decide +kernel
theorem dX3_setBound_44 : decode cX3_setBound 44 = .ok (.iload_n 1, 1) := by decide +kernel
theorem dX3_setBound_45 : decode cX3_setBound 45 = .ok (.iload_n 3, 1) := by decide +kernel
theorem dX3_setBound_46 : decode cX3_setBound 46 = .ok (.iastore, 1) := by decide +kernel
theorem dX3_setBound_47 : decode cX3_setBound 47 = .ok (.iconst 0, 1) := by decide +kernel
theorem dX3_setBound_48 : decode cX3_setBound 48 = .ok (.ireturn, 1) := by decide +kernel
theorem dX3_setWind_0 : decode cX3_setWind 0 = .ok (.iload_n 1, 1) := by decide +kernel
theorem dX3_setWind_1 : decode cX3_setWind 1 = .ok (.ifCond .lt 9, 3) := by decide +kernel
theorem dX3_setWind_4 : decode cX3_setWind 4 = .ok (.iload_n 1, 1) := by decide +kernel
theorem dX3_setWind_5 : decode cX3_setWind 5 = .ok (.bipush 17, 2) := by decide +kernel
theorem dX3_setWind_7 : decode cX3_setWind 7 = .ok (.if_icmp .lt 13, 3) := by decide +kernel
theorem dX3_setWind_10 : decode cX3_setWind 10 = .ok (.new 94, 3) := by decide +kernel
theorem dX3_setWind_13 : decode cX3_setWind 13 = .ok (.dup, 1) := by decide +kernel
theorem dX3_setWind_14 : decode cX3_setWind 14 = .ok (.ldc 96, 2) := by decide +kernel
theorem dX3_setWind_16 : decode cX3_setWind 16 = .ok (.invokespecial 98, 3) := by decide +kernel
theorem dX3_setWind_19 : decode cX3_setWind 19 = .ok (.athrow, 1) := by decide +kernel
theorem dX3_setWind_20 : decode cX3_setWind 20 = .ok (.iload_n 2, 1) := by decide +kernel
theorem dX3_setWind_21 : decode cX3_setWind 21 = .ok (.bipush (-10), 2) := by decide +kernel
theorem dX3_setWind_23 : decode cX3_setWind 23 = .ok (.bipush 10, 2) := by decide +kernel
theorem dX3_setWind_25 : decode cX3_setWind 25 = .ok (.invokestatic 79, 3) := by decide +kernel
theorem dX3_setWind_28 : decode cX3_setWind 28 = .ok (.aload_n 0, 1) := by decide +kernel
theorem dX3_setWind_29 : decode cX3_setWind 29 = .ok (.getfield 19, 3) := by decide +kernel
theorem dX3_setWind_32 : decode cX3_setWind 32 = .ok (.iload_n 1, 1) := by decide +kernel
theorem dX3_setWind_33 : decode cX3_setWind 33 = .ok (.iaload, 1) := by decide +kernel
theorem dX3_setWind_34 : decode cX3_setWind 34 = .ok (.istore_n 3, 1) := by decide +kernel
theorem dX3_setWind_35 : decode cX3_setWind 35 = .ok (.aload_n 0, 1) := by decide +kernel
theorem dX3_setWind_36 : decode cX3_setWind 36 = .ok (.getfield 19, 3) := by decide +kernel
theorem dX3_setWind_39 : decode cX3_setWind 39 = .ok (.iload_n 1, 1) := by decide +kernel
theorem dX3_setWind_40 : decode cX3_setWind 40 = .ok (.iload_n 2, 1) := by decide +kernel
theorem dX3_setWind_41 : decode cX3_setWind 41 = .ok (.iastore, 1) := by decide +kernel
theorem dX3_setWind_42 : decode cX3_setWind 42 = .ok (.aload_n 0, 1) := by decide +kernel
theorem dX3_setWind_43 : decode cX3_setWind 43 = .ok (.iload_n 1, 1) := by decide +kernel
theorem dX3_setWind_44 : decode cX3_setWind 44 = .ok (.bipush 60, 2) := by decide +kernel
theorem dX3_setWind_46 : decode cX3_setWind 46 = .ok (.imul, 1) := by decide +kernel
theorem dX3_setWind_47 : decode cX3_setWind 47 = .ok (.iload_n 1, 1) := by decide +kernel
theorem dX3_setWind_48 : decode cX3_setWind 48 = .ok (.bipush 60, 2) := by decide +kernel
theorem dX3_setWind_50 : decode cX3_setWind 50 = .ok (.imul, 1) := by decide +kernel
theorem dX3_setWind_51 : decode cX3_setWind 51 = .ok (.bipush 60, 2) := by decide +kernel
theorem dX3_setWind_53 : decode cX3_setWind 53 = .ok (.iadd, 1) := by decide +kernel
theorem dX3_setWind_54 : decode cX3_setWind 54 = .ok (.sipush 1000, 3) := by decide +kernel
theorem dX3_setWind_57 : decode cX3_setWind 57 = .ok (.invokestatic 99, 3) := by decide +kernel
theorem dX3_setWind_60 : decode cX3_setWind 60 = .ok (.invokevirtual 90, 3) := by decide +kernel
theorem dX3_setWind_63 : decode cX3_setWind 63 = .ok (.ifCond .ne 5, 3) := by decide +kernel
theorem dX3_setWind_66 : decode cX3_setWind 66 = .ok (.iconst 1, 1) := by decide +kernel
theorem dX3_setWind_67 : decode cX3_setWind 67 = .ok (.ireturn, 1) := by decide +kernel
theorem dX3_setWind_68 : decode cX3_setWind 68 = .ok (.aload_n 0, 1) := by decide +kernel
theorem dX3_setWind_69 : decode cX3_setWind 69 = .ok (.getfield 19, 3) := by decide +kernel
theorem dX3_setWind_72 : decode cX3_setWind 72 = .ok (.iload_n 1, 1) := by decide +kernel
theorem dX3_setWind_73 : decode cX3_setWind 73 = .ok (.iload_n 3, 1) := by decide +kernel
theorem dX3_setWind_74 : decode cX3_setWind 74 = .ok (.iastore, 1) := by decide +kernel
theorem dX3_setWind_75 : decode cX3_setWind 75 = .ok (.iconst 0, 1) := by decide +kernel
theorem dX3_setWind_76 : decode cX3_setWind 76 = .ok (.ireturn, 1) := by decide +kernel
theorem dX3_plan_0 : decode cX3_plan 0 = .ok (.aload_n 0, 1) := by decide +kernel
theorem dX3_plan_1 : decode cX3_plan 1 = .ok (.iload_n 1, 1) := by decide +kernel
theorem dX3_plan_2 : decode cX3_plan 2 = .ok (.iload_n 2, 1) := by decide +kernel
theorem dX3_plan_3 : decode cX3_plan 3 = .ok (.iload_n 3, 1) := by decide +kernel
theorem dX3_plan_4 : decode cX3_plan 4 = .ok (.iload 4, 2) := by decide +kernel
theorem dX3_plan_6 : decode cX3_plan 6 = .ok (.iload 5, 2) := by decide +kernel
theorem dX3_plan_8 : decode cX3_plan 8 = .ok (.iload 6, 2) := by decide +kernel
theorem dX3_plan_10 : decode cX3_plan 10 = .ok (.iload 7, 2) := by decide +kernel
theorem dX3_plan_12 : decode cX3_plan 12 = .ok (.invokevirtual 102, 3) := by decide +kernel
theorem dX3_plan_15 : decode cX3_plan 15 = .ok (.astore 8, 2) := by decide +kernel
theorem dX3_plan_17 : decode cX3_plan 17 = .ok (.aload_n 0, 1) := by decide +kernel
theorem dX3_plan_18 : decode cX3_plan 18 = .ok (.aload 8, 2) := by decide +kernel
theorem dX3_plan_20 : decode cX3_plan 20 = .ok (.invokevirtual 106, 3) := by decide +kernel
theorem dX3_plan_23 : decode cX3_plan 23 = .ok (.ifCond .eq 11, 3) := by decide +kernel
theorem dX3_plan_26 : decode cX3_plan 26 = .ok (.aload 8, 2) := by decide +kernel
theorem dX3_plan_28 : decode cX3_plan 28 = .ok (.iconst 0, 1) := by decide +kernel
theorem dX3_plan_29 : decode cX3_plan 29 = .ok (.putfield 110, 3) := by decide +kernel
theorem dX3_plan_32 : decode cX3_plan 32 = .ok (.iconst (-1), 1) := by decide +kernel
theorem dX3_plan_33 : decode cX3_plan 33 = .ok (.ireturn, 1) := by decide +kernel
theorem dX3_plan_34 : decode cX3_plan 34 = .ok (.aload_n 0, 1) := by decide +kernel
theorem dX3_plan_35 : decode cX3_plan 35 = .ok (.dup, 1) := by decide +kernel
theorem dX3_plan_36 : decode cX3_plan 36 = .ok (.getfield 114, 3) := by decide +kernel
theorem dX3_plan_39 : decode cX3_plan 39 = .ok (.iconst 1, 1) := by decide +kernel
theorem dX3_plan_40 : decode cX3_plan 40 = .ok (.iadd, 1) := by decide +kernel
theorem dX3_plan_41 : decode cX3_plan 41 = .ok (.putfield 114, 3) := by decide +kernel
theorem dX3_plan_44 : decode cX3_plan 44 = .ok (.aload_n 0, 1) := by decide +kernel
theorem dX3_plan_45 : decode cX3_plan 45 = .ok (.getfield 114, 3) := by decide +kernel
theorem dX3_plan_48 : decode cX3_plan 48 = .ok (.iconst 1, 1) := by decide +kernel
theorem dX3_plan_49 : decode cX3_plan 49 = .ok (.isub, 1) := by decide +kernel
theorem dX3_plan_50 : decode cX3_plan 50 = .ok (.ireturn, 1) := by decide +kernel
theorem dX3_reason_0 : decode cX3_reason 0 = .ok (.aload_n 0, 1) := by decide +kernel
theorem dX3_reason_1 : decode cX3_reason 1 = .ok (.iload_n 1, 1) := by decide +kernel
theorem dX3_reason_2 : decode cX3_reason 2 = .ok (.iload_n 2, 1) := by decide +kernel
theorem dX3_reason_3 : decode cX3_reason 3 = .ok (.iload_n 3, 1) := by decide +kernel
theorem dX3_reason_4 : decode cX3_reason 4 = .ok (.iload 4, 2) := by decide +kernel
theorem dX3_reason_6 : decode cX3_reason 6 = .ok (.iload 5, 2) := by decide +kernel
theorem dX3_reason_8 : decode cX3_reason 8 = .ok (.iload 6, 2) := by decide +kernel
theorem dX3_reason_10 : decode cX3_reason 10 = .ok (.iload 7, 2) := by decide +kernel
theorem dX3_reason_12 : decode cX3_reason 12 = .ok (.invokevirtual 102, 3) := by decide +kernel
theorem dX3_reason_15 : decode cX3_reason 15 = .ok (.astore 8, 2) := by decide +kernel
theorem dX3_reason_17 : decode cX3_reason 17 = .ok (.aload_n 0, 1) := by decide +kernel
theorem dX3_reason_18 : decode cX3_reason 18 = .ok (.aload 8, 2) := by decide +kernel
theorem dX3_reason_20 : decode cX3_reason 20 = .ok (.invokevirtual 106, 3) := by decide +kernel
theorem dX3_reason_23 : decode cX3_reason 23 = .ok (.istore 9, 2) := by decide +kernel
theorem dX3_reason_25 : decode cX3_reason 25 = .ok (.aload 8, 2) := by decide +kernel
theorem dX3_reason_27 : decode cX3_reason 27 = .ok (.iconst 0, 1) := by decide +kernel
theorem dX3_reason_28 : decode cX3_reason 28 = .ok (.putfield 110, 3) := by decide +kernel
theorem dX3_reason_31 : decode cX3_reason 31 = .ok (.iload 9, 2) := by decide +kernel
theorem dX3_reason_33 : decode cX3_reason 33 = .ok (.ireturn, 1) := by decide +kernel
theorem dX3_move_0 : decode cX3_move 0 = .ok (.aload_n 0, 1) := by decide +kernel
theorem dX3_move_1 : decode cX3_move 1 = .ok (.iload_n 1, 1) := by decide +kernel
theorem dX3_move_2 : decode cX3_move 2 = .ok (.invokevirtual 117, 3) := by decide +kernel
theorem dX3_move_5 : decode cX3_move 5 = .ok (.iload_n 2, 1) := by decide +kernel
theorem dX3_move_6 : decode cX3_move 6 = .ok (.invokestatic 55, 3) := by decide +kernel
theorem dX3_move_9 : decode cX3_move 9 = .ok (.aload_n 0, 1) := by decide +kernel
theorem dX3_move_10 : decode cX3_move 10 = .ok (.iload_n 1, 1) := by decide +kernel
theorem dX3_move_11 : decode cX3_move 11 = .ok (.invokevirtual 120, 3) := by decide +kernel
theorem dX3_move_14 : decode cX3_move 14 = .ok (.aload_n 0, 1) := by decide +kernel
theorem dX3_move_15 : decode cX3_move 15 = .ok (.getfield 24, 3) := by decide +kernel
theorem dX3_move_18 : decode cX3_move 18 = .ok (.iload_n 1, 1) := by decide +kernel
theorem dX3_move_19 : decode cX3_move 19 = .ok (.aaload, 1) := by decide +kernel
theorem dX3_move_20 : decode cX3_move 20 = .ok (.astore_n 3, 1) := by decide +kernel
theorem dX3_move_21 : decode cX3_move 21 = .ok (.aload_n 3, 1) := by decide +kernel
theorem dX3_move_22 : decode cX3_move 22 = .ok (.getfield 123, 3) := by decide +kernel
theorem dX3_move_25 : decode cX3_move 25 = .ok (.istore 4, 2) := by decide +kernel
theorem dX3_move_27 : decode cX3_move 27 = .ok (.aload_n 3, 1) := by decide +kernel
theorem dX3_move_28 : decode cX3_move 28 = .ok (.iload_n 2, 1) := by decide +kernel
theorem dX3_move_29 : decode cX3_move 29 = .ok (.putfield 123, 3) := by decide +kernel
theorem dX3_move_32 : decode cX3_move 32 = .ok (.aload_n 0, 1) := by decide +kernel
theorem dX3_move_33 : decode cX3_move 33 = .ok (.aload_n 3, 1) := by decide +kernel
theorem dX3_move_34 : decode cX3_move 34 = .ok (.invokevirtual 106, 3) := by decide +kernel
theorem dX3_move_37 : decode cX3_move 37 = .ok (.ifCond .ne 5, 3) := by decide +kernel
theorem dX3_move_40 : decode cX3_move 40 = .ok (.iconst 1, 1) := by decide +kernel
theorem dX3_move_41 : decode cX3_move 41 = .ok (.ireturn, 1) := by decide +kernel
theorem dX3_move_42 : decode cX3_move 42 = .ok (.aload_n 3, 1) := by decide +kernel
theorem dX3_move_43 : decode cX3_move 43 = .ok (.iload 4, 2) := by decide +kernel
theorem dX3_move_45 : decode cX3_move 45 = .ok (.putfield 123, 3) := by decide +kernel
theorem dX3_move_48 : decode cX3_move 48 = .ok (.iconst 0, 1) := by decide +kernel
theorem dX3_move_49 : decode cX3_move 49 = .ok (.ireturn, 1) := by decide +kernel
theorem dX3_drop_0 : decode cX3_drop 0 = .ok (.aload_n 0, 1) := by decide +kernel
theorem dX3_drop_1 : decode cX3_drop 1 = .ok (.iload_n 1, 1) := by decide +kernel
theorem dX3_drop_2 : decode cX3_drop 2 = .ok (.invokevirtual 117, 3) := by decide +kernel
theorem dX3_drop_5 : decode cX3_drop 5 = .ok (.aload_n 0, 1) := by decide +kernel
theorem dX3_drop_6 : decode cX3_drop 6 = .ok (.iload_n 1, 1) := by decide +kernel
theorem dX3_drop_7 : decode cX3_drop 7 = .ok (.invokevirtual 120, 3) := by decide +kernel
theorem dX3_drop_10 : decode cX3_drop 10 = .ok (.aload_n 0, 1) := by decide +kernel
theorem dX3_drop_11 : decode cX3_drop 11 = .ok (.getfield 24, 3) := by decide +kernel
theorem dX3_drop_14 : decode cX3_drop 14 = .ok (.iload_n 1, 1) := by decide +kernel
theorem dX3_drop_15 : decode cX3_drop 15 = .ok (.aaload, 1) := by decide +kernel
theorem dX3_drop_16 : decode cX3_drop 16 = .ok (.iconst 0, 1) := by decide +kernel
theorem dX3_drop_17 : decode cX3_drop 17 = .ok (.putfield 110, 3) := by decide +kernel
theorem dX3_drop_20 : decode cX3_drop 20 = .ok (.return_, 1) := by decide +kernel
theorem dX3_start_0 : decode cX3_start 0 = .ok (.aload_n 0, 1) := by decide +kernel
theorem dX3_start_1 : decode cX3_start 1 = .ok (.iload_n 1, 1) := by decide +kernel
theorem dX3_start_2 : decode cX3_start 2 = .ok (.invokevirtual 117, 3) := by decide +kernel
theorem dX3_start_5 : decode cX3_start 5 = .ok (.aload_n 0, 1) := by decide +kernel
theorem dX3_start_6 : decode cX3_start 6 = .ok (.getfield 24, 3) := by decide +kernel
theorem dX3_start_9 : decode cX3_start 9 = .ok (.iload_n 1, 1) := by decide +kernel
theorem dX3_start_10 : decode cX3_start 10 = .ok (.aaload, 1) := by decide +kernel
theorem dX3_start_11 : decode cX3_start 11 = .ok (.getfield 110, 3) := by decide +kernel
theorem dX3_start_14 : decode cX3_start 14 = .ok (.ifCond .eq 15, 3) := by decide +kernel
theorem dX3_start_17 : decode cX3_start 17 = .ok (.aload_n 0, 1) := by decide +kernel
theorem dX3_start_18 : decode cX3_start 18 = .ok (.getfield 24, 3) := by decide +kernel
theorem dX3_start_21 : decode cX3_start 21 = .ok (.iload_n 1, 1) := by decide +kernel
theorem dX3_start_22 : decode cX3_start 22 = .ok (.aaload, 1) := by decide +kernel
theorem dX3_start_23 : decode cX3_start 23 = .ok (.getfield 123, 3) := by decide +kernel
theorem dX3_start_26 : decode cX3_start 26 = .ok (.goto 4, 3) := by decide +kernel
theorem dX3_start_29 : decode cX3_start 29 = .ok (.iconst (-1), 1) := by decide +kernel
theorem dX3_start_30 : decode cX3_start 30 = .ok (.ireturn, 1) := by decide +kernel
theorem dX3_firstStart_0 : decode cX3_firstStart 0 = .ok (.aload_n 0, 1) := by decide +kernel
theorem dX3_firstStart_1 : decode cX3_firstStart 1 = .ok (.iload_n 1, 1) := by decide +kernel
theorem dX3_firstStart_2 : decode cX3_firstStart 2 = .ok (.invokevirtual 117, 3) := by decide +kernel
theorem dX3_firstStart_5 : decode cX3_firstStart 5 = .ok (.iload_n 2, 1) := by decide +kernel
theorem dX3_firstStart_6 : decode cX3_firstStart 6 = .ok (.invokestatic 55, 3) := by decide +kernel
theorem dX3_firstStart_9 : decode cX3_firstStart 9 = .ok (.aload_n 0, 1) := by decide +kernel
theorem dX3_firstStart_10 : decode cX3_firstStart 10 = .ok (.iload_n 1, 1) := by decide +kernel
theorem dX3_firstStart_11 : decode cX3_firstStart 11 = .ok (.invokevirtual 120, 3) := by decide +kernel
theorem dX3_firstStart_14 : decode cX3_firstStart 14 = .ok (.aload_n 0, 1) := by decide +kernel
theorem dX3_firstStart_15 : decode cX3_firstStart 15 = .ok (.getfield 24, 3) := by decide +kernel
theorem dX3_firstStart_18 : decode cX3_firstStart 18 = .ok (.iload_n 1, 1) := by decide +kernel
theorem dX3_firstStart_19 : decode cX3_firstStart 19 = .ok (.aaload, 1) := by decide +kernel
theorem dX3_firstStart_20 : decode cX3_firstStart 20 = .ok (.astore_n 3, 1) := by decide +kernel
theorem dX3_firstStart_21 : decode cX3_firstStart 21 = .ok (.aload_n 3, 1) := by decide +kernel
theorem dX3_firstStart_22 : decode cX3_firstStart 22 = .ok (.getfield 123, 3) := by decide +kernel
theorem dX3_firstStart_25 : decode cX3_firstStart 25 = .ok (.istore 4, 2) := by decide +kernel
theorem dX3_firstStart_27 : decode cX3_firstStart 27 = .ok (.aload_n 0, 1) := by decide +kernel
theorem dX3_firstStart_28 : decode cX3_firstStart 28 = .ok (.aload_n 3, 1) := by decide +kernel
theorem dX3_firstStart_29 : decode cX3_firstStart 29 = .ok (.iload_n 2, 1) := by decide +kernel
theorem dX3_firstStart_30 : decode cX3_firstStart 30 = .ok (.invokevirtual 126, 3) := by decide +kernel
theorem dX3_firstStart_33 : decode cX3_firstStart 33 = .ok (.istore 5, 2) := by decide +kernel
theorem dX3_firstStart_35 : decode cX3_firstStart 35 = .ok (.aload_n 3, 1) := by decide +kernel
theorem dX3_firstStart_36 : decode cX3_firstStart 36 = .ok (.iload 4, 2) := by decide +kernel
theorem dX3_firstStart_38 : decode cX3_firstStart 38 = .ok (.putfield 123, 3) := by decide +kernel
theorem dX3_firstStart_41 : decode cX3_firstStart 41 = .ok (.iload 5, 2) := by decide +kernel
theorem dX3_firstStart_43 : decode cX3_firstStart 43 = .ok (.ireturn, 1) := by decide +kernel
theorem dX3_type_0 : decode cX3_type 0 = .ok (.iload_n 1, 1) := by decide +kernel
theorem dX3_type_1 : decode cX3_type 1 = .ok (.bipush 97, 2) := by decide +kernel
theorem dX3_type_3 : decode cX3_type 3 = .ok (.bipush 122, 2) := by decide +kernel
theorem dX3_type_5 : decode cX3_type 5 = .ok (.invokestatic 79, 3) := by decide +kernel
theorem dX3_type_8 : decode cX3_type 8 = .ok (.aload_n 0, 1) := by decide +kernel
theorem dX3_type_9 : decode cX3_type 9 = .ok (.getfield 31, 3) := by decide +kernel
theorem dX3_type_12 : decode cX3_type 12 = .ok (.invokevirtual 130, 3) := by decide +kernel
theorem dX3_type_15 : decode cX3_type 15 = .ok (.bipush 6, 2) := by decide +kernel
theorem dX3_type_17 : decode cX3_type 17 = .ok (.if_icmp .lt 13, 3) := by decide +kernel
theorem dX3_type_20 : decode cX3_type 20 = .ok (.new 63, 3) := by decide +kernel
theorem dX3_type_23 : decode cX3_type 23 = .ok (.dup, 1) := by decide +kernel
theorem dX3_type_24 : decode cX3_type 24 = .ok (.ldc 134, 2) := by decide +kernel
theorem dX3_type_26 : decode cX3_type 26 = .ok (.invokespecial 67, 3) := by decide +kernel
theorem dX3_type_29 : decode cX3_type 29 = .ok (.athrow, 1) := by decide +kernel
theorem dX3_type_30 : decode cX3_type 30 = .ok (.aload_n 0, 1) := by decide +kernel
theorem dX3_type_31 : decode cX3_type 31 = .ok (.getfield 31, 3) := by decide +kernel
theorem dX3_type_34 : decode cX3_type 34 = .ok (.iload_n 1, 1) := by decide +kernel
theorem dX3_type_35 : decode cX3_type 35 = .ok (.invokevirtual 136, 3) := by decide +kernel
theorem dX3_type_38 : decode cX3_type 38 = .ok (.pop, 1) := by decide +kernel
theorem dX3_type_39 : decode cX3_type 39 = .ok (.aload_n 0, 1) := by decide +kernel
theorem dX3_type_40 : decode cX3_type 40 = .ok (.getfield 31, 3) := by decide +kernel
theorem dX3_type_43 : decode cX3_type 43 = .ok (.invokevirtual 130, 3) := by decide +kernel
theorem dX3_type_46 : decode cX3_type 46 = .ok (.ireturn, 1) := by decide +kernel
theorem dX3_wipe_0 : decode cX3_wipe 0 = .ok (.aload_n 0, 1) := by decide +kernel
theorem dX3_wipe_1 : decode cX3_wipe 1 = .ok (.getfield 31, 3) := by decide +kernel
theorem dX3_wipe_4 : decode cX3_wipe 4 = .ok (.invokevirtual 130, 3) := by decide +kernel
theorem dX3_wipe_7 : decode cX3_wipe 7 = .ok (.istore_n 1, 1) := by decide +kernel
theorem dX3_wipe_8 : decode cX3_wipe 8 = .ok (.aload_n 0, 1) := by decide +kernel
theorem dX3_wipe_9 : decode cX3_wipe 9 = .ok (.getfield 31, 3) := by decide +kernel
theorem dX3_wipe_12 : decode cX3_wipe 12 = .ok (.iconst 0, 1) := by decide +kernel
theorem dX3_wipe_13 : decode cX3_wipe 13 = .ok (.invokevirtual 140, 3) := by decide +kernel
theorem dX3_wipe_16 : decode cX3_wipe 16 = .ok (.iload_n 1, 1) := by decide +kernel
theorem dX3_wipe_17 : decode cX3_wipe 17 = .ok (.ireturn, 1) := by decide +kernel
theorem dX3_grant_0 : decode cX3_grant 0 = .ok (.aload_n 0, 1) := by decide +kernel
theorem dX3_grant_1 : decode cX3_grant 1 = .ok (.iload_n 1, 1) := by decide +kernel
theorem dX3_grant_2 : decode cX3_grant 2 = .ok (.invokevirtual 117, 3) := by decide +kernel
theorem dX3_grant_5 : decode cX3_grant 5 = .ok (.aload_n 0, 1) := by decide +kernel
theorem dX3_grant_6 : decode cX3_grant 6 = .ok (.iload_n 1, 1) := by decide +kernel
theorem dX3_grant_7 : decode cX3_grant 7 = .ok (.invokevirtual 120, 3) := by decide +kernel
theorem dX3_grant_10 : decode cX3_grant 10 = .ok (.aload_n 0, 1) := by decide +kernel
theorem dX3_grant_11 : decode cX3_grant 11 = .ok (.invokevirtual 143, 3) := by decide +kernel
theorem dX3_grant_14 : decode cX3_grant 14 = .ok (.astore_n 2, 1) := by decide +kernel
theorem dX3_grant_15 : decode cX3_grant 15 = .ok (.aload_n 2, 1) := by decide +kernel
theorem dX3_grant_16 : decode cX3_grant 16 = .ok (.ifnonnull 13, 3) := by decide +kernel
theorem dX3_grant_19 : decode cX3_grant 19 = .ok (.new 63, 3) := by decide +kernel
theorem dX3_grant_22 : decode cX3_grant 22 = .ok (.dup, 1) := by decide +kernel
theorem dX3_grant_23 : decode cX3_grant 23 = .ok (.ldc 147, 2) := by decide +kernel
theorem dX3_grant_25 : decode cX3_grant 25 = .ok (.invokespecial 67, 3) := by decide +kernel
theorem dX3_grant_28 : decode cX3_grant 28 = .ok (.athrow, 1) := by decide +kernel
theorem dX3_grant_29 : decode cX3_grant 29 = .ok (.aload_n 0, 1) := by decide +kernel
theorem dX3_grant_30 : decode cX3_grant 30 = .ok (.getfield 24, 3) := by decide +kernel
theorem dX3_grant_33 : decode cX3_grant 33 = .ok (.iload_n 1, 1) := by decide +kernel
theorem dX3_grant_34 : decode cX3_grant 34 = .ok (.aaload, 1) := by decide +kernel
theorem dX3_grant_35 : decode cX3_grant 35 = .ok (.astore_n 3, 1) := by decide +kernel
theorem dX3_grant_36 : decode cX3_grant 36 = .ok (.aload_n 3, 1) := by decide +kernel
theorem dX3_grant_37 : decode cX3_grant 37 = .ok (.getfield 149, 3) := by decide +kernel
theorem dX3_grant_40 : decode cX3_grant 40 = .ok (.istore 4, 2) := by decide +kernel
theorem dX3_grant_42 : decode cX3_grant 42 = .ok (.aload_n 3, 1) := by decide +kernel
theorem dX3_grant_43 : decode cX3_grant 43 = .ok (.getfield 152, 3) := by decide +kernel
theorem dX3_grant_46 : decode cX3_grant 46 = .ok (.istore 5, 2) := by decide +kernel
theorem dX3_grant_48 : decode cX3_grant 48 = .ok (.aload_n 3, 1) := by decide +kernel
theorem dX3_grant_49 : decode cX3_grant 49 = .ok (.getfield 155, 3) := by decide +kernel
theorem dX3_grant_52 : decode cX3_grant 52 = .ok (.istore 6, 2) := by decide +kernel
theorem dX3_grant_54 : decode cX3_grant 54 = .ok (.aload_n 3, 1) := by decide +kernel
theorem dX3_grant_55 : decode cX3_grant 55 = .ok (.aload_n 2, 1) := by decide +kernel
theorem dX3_grant_56 : decode cX3_grant 56 = .ok (.invokevirtual 158, 3) := by decide +kernel
theorem dX3_grant_59 : decode cX3_grant 59 = .ok (.aload_n 0, 1) := by decide +kernel
theorem dX3_grant_60 : decode cX3_grant 60 = .ok (.aload_n 3, 1) := by decide +kernel
theorem dX3_grant_61 : decode cX3_grant 61 = .ok (.invokevirtual 106, 3) := by decide +kernel
theorem dX3_grant_64 : decode cX3_grant 64 = .ok (.ifCond .ne 5, 3) := by decide +kernel
theorem dX3_grant_67 : decode cX3_grant 67 = .ok (.iconst 1, 1) := by decide +kernel
theorem dX3_grant_68 : decode cX3_grant 68 = .ok (.ireturn, 1) := by decide +kernel
theorem dX3_grant_69 : decode cX3_grant 69 = .ok (.aload_n 3, 1) := by decide +kernel
theorem dX3_grant_70 : decode cX3_grant 70 = .ok (.iload 4, 2) := by decide +kernel
theorem dX3_grant_72 : decode cX3_grant 72 = .ok (.putfield 149, 3) := by decide +kernel
theorem dX3_grant_75 : decode cX3_grant 75 = .ok (.aload_n 3, 1) := by decide +kernel
theorem dX3_grant_76 : decode cX3_grant 76 = .ok (.iload 5, 2) := by decide +kernel
theorem dX3_grant_78 : decode cX3_grant 78 = .ok (.putfield 152, 3) := by decide +kernel
theorem dX3_grant_81 : decode cX3_grant 81 = .ok (.aload_n 3, 1) := by decide +kernel
theorem dX3_grant_82 : decode cX3_grant 82 = .ok (.iload 6, 2) := by decide +kernel
theorem dX3_grant_84 : decode cX3_grant 84 = .ok (.putfield 155, 3) := by decide +kernel
theorem dX3_grant_87 : decode cX3_grant 87 = .ok (.iconst 0, 1) := by decide +kernel
theorem dX3_grant_88 : decode cX3_grant 88 = .ok (.ireturn, 1) := by decide +kernel
theorem dX3_ofAct_0 : decode cX3_ofAct 0 = .ok (.aload_n 0, 1) := by decide +kernel
theorem dX3_ofAct_1 : decode cX3_ofAct 1 = .ok (.iload_n 1, 1) := by decide +kernel
theorem dX3_ofAct_2 : decode cX3_ofAct 2 = .ok (.invokevirtual 117, 3) := by decide +kernel
theorem dX3_ofAct_5 : decode cX3_ofAct 5 = .ok (.iload_n 2, 1) := by decide +kernel
theorem dX3_ofAct_6 : decode cX3_ofAct 6 = .ok (.tableswitch 56 0 2 #[26, 36, 46], 26) := by decide +kernel
theorem dX3_ofAct_32 : decode cX3_ofAct 32 = .ok (.aload_n 0, 1) := by decide +kernel
theorem dX3_ofAct_33 : decode cX3_ofAct 33 = .ok (.getfield 24, 3) := by decide +kernel
theorem dX3_ofAct_36 : decode cX3_ofAct 36 = .ok (.iload_n 1, 1) := by decide +kernel
theorem dX3_ofAct_37 : decode cX3_ofAct 37 = .ok (.aaload, 1) := by decide +kernel
theorem dX3_ofAct_38 : decode cX3_ofAct 38 = .ok (.getfield 149, 3) := by decide +kernel
theorem dX3_ofAct_41 : decode cX3_ofAct 41 = .ok (.ireturn, 1) := by decide +kernel
theorem dX3_ofAct_42 : decode cX3_ofAct 42 = .ok (.aload_n 0, 1) := by decide +kernel
theorem dX3_ofAct_43 : decode cX3_ofAct 43 = .ok (.getfield 24, 3) := by decide +kernel
theorem dX3_ofAct_46 : decode cX3_ofAct 46 = .ok (.iload_n 1, 1) := by decide +kernel
theorem dX3_ofAct_47 : decode cX3_ofAct 47 = .ok (.aaload, 1) := by decide +kernel
theorem dX3_ofAct_48 : decode cX3_ofAct 48 = .ok (.getfield 152, 3) := by decide +kernel
theorem dX3_ofAct_51 : decode cX3_ofAct 51 = .ok (.ireturn, 1) := by decide +kernel
theorem dX3_ofAct_52 : decode cX3_ofAct 52 = .ok (.aload_n 0, 1) := by decide +kernel
theorem dX3_ofAct_53 : decode cX3_ofAct 53 = .ok (.getfield 24, 3) := by decide +kernel
theorem dX3_ofAct_56 : decode cX3_ofAct 56 = .ok (.iload_n 1, 1) := by decide +kernel
theorem dX3_ofAct_57 : decode cX3_ofAct 57 = .ok (.aaload, 1) := by decide +kernel
theorem dX3_ofAct_58 : decode cX3_ofAct 58 = .ok (.getfield 155, 3) := by decide +kernel
theorem dX3_ofAct_61 : decode cX3_ofAct 61 = .ok (.ireturn, 1) := by decide +kernel
theorem dX3_ofAct_62 : decode cX3_ofAct 62 = .ok (.new 94, 3) := by decide +kernel
theorem dX3_ofAct_65 : decode cX3_ofAct 65 = .ok (.dup, 1) := by decide +kernel
theorem dX3_ofAct_66 : decode cX3_ofAct 66 = .ok (.ldc 162, 2) := by decide +kernel
theorem dX3_ofAct_68 : decode cX3_ofAct 68 = .ok (.invokespecial 98, 3) := by decide +kernel
theorem dX3_ofAct_71 : decode cX3_ofAct 71 = .ok (.athrow, 1) := by decide +kernel
theorem dX3_storm_0 : decode cX3_storm 0 = .ok (.iload_n 1, 1) := by decide +kernel
theorem dX3_storm_1 : decode cX3_storm 1 = .ok (.invokestatic 76, 3) := by decide +kernel
theorem dX3_storm_4 : decode cX3_storm 4 = .ok (.iload_n 2, 1) := by decide +kernel
theorem dX3_storm_5 : decode cX3_storm 5 = .ok (.invokestatic 55, 3) := by decide +kernel
theorem dX3_storm_8 : decode cX3_storm 8 = .ok (.iload_n 3, 1) := by decide +kernel
theorem dX3_storm_9 : decode cX3_storm 9 = .ok (.iconst 1, 1) := by decide +kernel
theorem dX3_storm_10 : decode cX3_storm 10 = .ok (.sipush 200, 3) := by decide +kernel
theorem dX3_storm_13 : decode cX3_storm 13 = .ok (.invokestatic 79, 3) := by decide +kernel
theorem dX3_storm_16 : decode cX3_storm 16 = .ok (.aload_n 0, 1) := by decide +kernel
theorem dX3_storm_17 : decode cX3_storm 17 = .ok (.getfield 164, 3) := by decide +kernel
theorem dX3_storm_20 : decode cX3_storm 20 = .ok (.iconst 5, 1) := by decide +kernel
theorem dX3_storm_21 : decode cX3_storm 21 = .ok (.if_icmp .lt 13, 3) := by decide +kernel
theorem dX3_storm_24 : decode cX3_storm 24 = .ok (.new 63, 3) := by decide +kernel
theorem dX3_storm_27 : decode cX3_storm 27 = .ok (.dup, 1) := by decide +kernel
theorem dX3_storm_28 : decode cX3_storm 28 = .ok (.ldc 167, 2) := by decide +kernel
theorem dX3_storm_30 : decode cX3_storm 30 = .ok (.invokespecial 67, 3) := by decide +kernel
theorem dX3_storm_33 : decode cX3_storm 33 = .ok (.athrow, 1) := by decide +kernel
theorem dX3_storm_34 : decode cX3_storm 34 = .ok (.aload_n 0, 1) := by decide +kernel
theorem dX3_storm_35 : decode cX3_storm 35 = .ok (.getfield 37, 3) := by decide +kernel
theorem dX3_storm_38 : decode cX3_storm 38 = .ok (.aload_n 0, 1) := by decide +kernel
theorem dX3_storm_39 : decode cX3_storm 39 = .ok (.getfield 164, 3) := by decide +kernel
theorem dX3_storm_42 : decode cX3_storm 42 = .ok (.aaload, 1) := by decide +kernel
theorem dX3_storm_43 : decode cX3_storm 43 = .ok (.astore 4, 2) := by decide +kernel
theorem dX3_storm_45 : decode cX3_storm 45 = .ok (.aload_n 0, 1) := by decide +kernel
theorem dX3_storm_46 : decode cX3_storm 46 = .ok (.dup, 1) := by decide +kernel
theorem dX3_storm_47 : decode cX3_storm 47 = .ok (.getfield 164, 3) := by decide +kernel
theorem dX3_storm_50 : decode cX3_storm 50 = .ok (.iconst 1, 1) := by decide +kernel
theorem dX3_storm_51 : decode cX3_storm 51 = .ok (.iadd, 1) := by decide +kernel
theorem dX3_storm_52 : decode cX3_storm 52 = .ok (.putfield 164, 3) := by decide +kernel
theorem dX3_storm_55 : decode cX3_storm 55 = .ok (.aload 4, 2) := by decide +kernel
theorem dX3_storm_57 : decode cX3_storm 57 = .ok (.iload_n 1, 1) := by decide +kernel
theorem dX3_storm_58 : decode cX3_storm 58 = .ok (.putfield 169, 3) := by decide +kernel
theorem dX3_storm_61 : decode cX3_storm 61 = .ok (.aload 4, 2) := by decide +kernel
theorem dX3_storm_63 : decode cX3_storm 63 = .ok (.iload_n 2, 1) := by decide +kernel
theorem dX3_storm_64 : decode cX3_storm 64 = .ok (.putfield 172, 3) := by decide +kernel
theorem dX3_storm_67 : decode cX3_storm 67 = .ok (.aload 4, 2) := by decide +kernel
theorem dX3_storm_69 : decode cX3_storm 69 = .ok (.iload_n 2, 1) := by decide +kernel
theorem dX3_storm_70 : decode cX3_storm 70 = .ok (.iload_n 3, 1) := by decide +kernel
theorem dX3_storm_71 : decode cX3_storm 71 = .ok (.iadd, 1) := by decide +kernel
theorem dX3_storm_72 : decode cX3_storm 72 = .ok (.sipush 1000, 3) := by decide +kernel
theorem dX3_storm_75 : decode cX3_storm 75 = .ok (.invokestatic 99, 3) := by decide +kernel
theorem dX3_storm_78 : decode cX3_storm 78 = .ok (.putfield 175, 3) := by decide +kernel
theorem dX3_storm_81 : decode cX3_storm 81 = .ok (.aload_n 0, 1) := by decide +kernel
theorem dX3_storm_82 : decode cX3_storm 82 = .ok (.aload 4, 2) := by decide +kernel
theorem dX3_storm_84 : decode cX3_storm 84 = .ok (.invokevirtual 178, 3) := by decide +kernel
theorem dX3_storm_87 : decode cX3_storm 87 = .ok (.aload_n 0, 1) := by decide +kernel
theorem dX3_storm_88 : decode cX3_storm 88 = .ok (.aload 4, 2) := by decide +kernel
theorem dX3_storm_90 : decode cX3_storm 90 = .ok (.getfield 175, 3) := by decide +kernel
theorem dX3_storm_93 : decode cX3_storm 93 = .ok (.invokevirtual 182, 3) := by decide +kernel
theorem dX3_storm_96 : decode cX3_storm 96 = .ok (.ireturn, 1) := by decide +kernel
theorem dX3_load_0 : decode cX3_load 0 = .ok (.iload_n 2, 1) := by decide +kernel
theorem dX3_load_1 : decode cX3_load 1 = .ok (.invokestatic 185, 3) := by decide +kernel
theorem dX3_load_4 : decode cX3_load 4 = .ok (.iload_n 1, 1) := by decide +kernel
theorem dX3_load_5 : decode cX3_load 5 = .ok (.invokestatic 55, 3) := by decide +kernel
theorem dX3_load_8 : decode cX3_load 8 = .ok (.aload_n 0, 1) := by decide +kernel
theorem dX3_load_9 : decode cX3_load 9 = .ok (.iload_n 1, 1) := by decide +kernel
theorem dX3_load_10 : decode cX3_load 10 = .ok (.invokevirtual 188, 3) := by decide +kernel
theorem dX3_load_13 : decode cX3_load 13 = .ok (.aload_n 0, 1) := by decide +kernel
theorem dX3_load_14 : decode cX3_load 14 = .ok (.getfield 41, 3) := by decide +kernel
theorem dX3_load_17 : decode cX3_load 17 = .ok (.iload_n 2, 1) := by decide +kernel
theorem dX3_load_18 : decode cX3_load 18 = .ok (.iaload, 1) := by decide +kernel
theorem dX3_load_19 : decode cX3_load 19 = .ok (.ireturn, 1) := by decide +kernel
theorem dX3_noise_0 : decode cX3_noise 0 = .ok (.iload_n 2, 1) := by decide +kernel
theorem dX3_noise_1 : decode cX3_noise 1 = .ok (.invokestatic 87, 3) := by decide +kernel
theorem dX3_noise_4 : decode cX3_noise 4 = .ok (.iload_n 1, 1) := by decide +kernel
theorem dX3_noise_5 : decode cX3_noise 5 = .ok (.invokestatic 55, 3) := by decide +kernel
theorem dX3_noise_8 : decode cX3_noise 8 = .ok (.aload_n 0, 1) := by decide +kernel
theorem dX3_noise_9 : decode cX3_noise 9 = .ok (.iload_n 1, 1) := by decide +kernel
theorem dX3_noise_10 : decode cX3_noise 10 = .ok (.invokevirtual 188, 3) := by decide +kernel
theorem dX3_noise_13 : decode cX3_noise 13 = .ok (.aload_n 0, 1) := by decide +kernel
theorem dX3_noise_14 : decode cX3_noise 14 = .ok (.getfield 44, 3) := by decide +kernel
theorem dX3_noise_17 : decode cX3_noise 17 = .ok (.iload_n 2, 1) := by decide +kernel
theorem dX3_noise_18 : decode cX3_noise 18 = .ok (.iaload, 1) := by decide +kernel
theorem dX3_noise_19 : decode cX3_noise 19 = .ok (.ireturn, 1) := by decide +kernel
theorem dX3_channels_0 : decode cX3_channels 0 = .ok (.iload_n 1, 1) := by decide +kernel
theorem dX3_channels_1 : decode cX3_channels 1 = .ok (.invokestatic 55, 3) := by decide +kernel
theorem dX3_channels_4 : decode cX3_channels 4 = .ok (.aload_n 0, 1) := by decide +kernel
theorem dX3_channels_5 : decode cX3_channels 5 = .ok (.iload_n 1, 1) := by decide +kernel
theorem dX3_channels_6 : decode cX3_channels 6 = .ok (.invokevirtual 188, 3) := by decide +kernel
theorem dX3_channels_9 : decode cX3_channels 9 = .ok (.aload_n 0, 1) := by decide +kernel
theorem dX3_channels_10 : decode cX3_channels 10 = .ok (.getfield 191, 3) := by decide +kernel
theorem dX3_channels_13 : decode cX3_channels 13 = .ok (.ireturn, 1) := by decide +kernel
theorem dX3_isFineByMinutes_0 : decode cX3_isFineByMinutes 0 = .ok (.aload_n 0, 1) := by decide +kernel
theorem dX3_isFineByMinutes_1 : decode cX3_isFineByMinutes 1 = .ok (.getfield 24, 3) := by decide +kernel
theorem dX3_isFineByMinutes_4 : decode cX3_isFineByMinutes 4 = .ok (.astore_n 1, 1) := by decide +kernel
theorem dX3_isFineByMinutes_5 : decode cX3_isFineByMinutes 5 = .ok (.aload_n 1, 1) := by decide +kernel
theorem dX3_isFineByMinutes_6 : decode cX3_isFineByMinutes 6 = .ok (.arraylength, 1) := by decide +kernel
theorem dX3_isFineByMinutes_7 : decode cX3_isFineByMinutes 7 = .ok (.istore_n 2, 1) := by decide +kernel
theorem dX3_isFineByMinutes_8 : decode cX3_isFineByMinutes 8 = .ok (.iconst 0, 1) := by decide +kernel
theorem dX3_isFineByMinutes_9 : decode cX3_isFineByMinutes 9 = .ok (.istore_n 3, 1) := by decide +kernel
theorem dX3_isFineByMinutes_10 : decode cX3_isFineByMinutes 10 = .ok (.iload_n 3, 1) := by decide +kernel
theorem dX3_isFineByMinutes_11 : decode cX3_isFineByMinutes 11 = .ok (.iload_n 2, 1) := by decide +kernel
theorem dX3_isFineByMinutes_12 : decode cX3_isFineByMinutes 12 = .ok (.if_icmp .ge 35, 3) := by decide +kernel
theorem dX3_isFineByMinutes_15 : decode cX3_isFineByMinutes 15 = .ok (.aload_n 1, 1) := by decide +kernel
theorem dX3_isFineByMinutes_16 : decode cX3_isFineByMinutes 16 = .ok (.iload_n 3, 1) := by decide +kernel
theorem dX3_isFineByMinutes_17 : decode cX3_isFineByMinutes 17 = .ok (.aaload, 1) := by decide +kernel
theorem dX3_isFineByMinutes_18 : decode cX3_isFineByMinutes 18 = .ok (.astore 4, 2) := by decide +kernel
theorem dX3_isFineByMinutes_20 : decode cX3_isFineByMinutes 20 = .ok (.aload 4, 2) := by decide +kernel
theorem dX3_isFineByMinutes_22 : decode cX3_isFineByMinutes 22 = .ok (.getfield 110, 3) := by decide +kernel
theorem dX3_isFineByMinutes_25 : decode cX3_isFineByMinutes 25 = .ok (.ifCond .eq 16, 3) := by decide +kernel
theorem dX3_isFineByMinutes_28 : decode cX3_isFineByMinutes 28 = .ok (.aload 4, 2) := by decide +kernel
theorem dX3_isFineByMinutes_30 : decode cX3_isFineByMinutes 30 = .ok (.invokevirtual 194, 3) := by decide +kernel
theorem dX3_isFineByMinutes_33 : decode cX3_isFineByMinutes 33 = .ok (.sipush 1000, 3) := by decide +kernel
theorem dX3_isFineByMinutes_36 : decode cX3_isFineByMinutes 36 = .ok (.if_icmp .le 5, 3) := by decide +kernel
theorem dX3_isFineByMinutes_39 : decode cX3_isFineByMinutes 39 = .ok (.iconst 0, 1) := by decide +kernel
theorem dX3_isFineByMinutes_40 : decode cX3_isFineByMinutes 40 = .ok (.ireturn, 1) := by decide +kernel
theorem dX3_isFineByMinutes_41 : decode cX3_isFineByMinutes 41 = .ok (.iinc 3 1, 3) := by decide +kernel
theorem dX3_isFineByMinutes_44 : decode cX3_isFineByMinutes 44 = .ok (.goto (-34), 3) := by decide +kernel
theorem dX3_isFineByMinutes_47 : decode cX3_isFineByMinutes 47 = .ok (.iconst 0, 1) := by decide +kernel
theorem dX3_isFineByMinutes_48 : decode cX3_isFineByMinutes 48 = .ok (.istore_n 1, 1) := by decide +kernel
theorem dX3_isFineByMinutes_49 : decode cX3_isFineByMinutes 49 = .ok (.iload_n 1, 1) := by decide +kernel
theorem dX3_isFineByMinutes_50 : decode cX3_isFineByMinutes 50 = .ok (.sipush 1000, 3) := by decide +kernel
theorem dX3_isFineByMinutes_53 : decode cX3_isFineByMinutes 53 = .ok (.if_icmp .ge 27, 3) := by decide +kernel
theorem dX3_isFineByMinutes_56 : decode cX3_isFineByMinutes 56 = .ok (.aload_n 0, 1) := by decide +kernel
theorem dX3_isFineByMinutes_57 : decode cX3_isFineByMinutes 57 = .ok (.iload_n 1, 1) := by decide +kernel
theorem dX3_isFineByMinutes_58 : decode cX3_isFineByMinutes 58 = .ok (.invokevirtual 196, 3) := by decide +kernel
theorem dX3_isFineByMinutes_61 : decode cX3_isFineByMinutes 61 = .ok (.ifCond .eq 11, 3) := by decide +kernel
theorem dX3_isFineByMinutes_64 : decode cX3_isFineByMinutes 64 = .ok (.aload_n 0, 1) := by decide +kernel
theorem dX3_isFineByMinutes_65 : decode cX3_isFineByMinutes 65 = .ok (.iload_n 1, 1) := by decide +kernel
theorem dX3_isFineByMinutes_66 : decode cX3_isFineByMinutes 66 = .ok (.invokevirtual 199, 3) := by decide +kernel
theorem dX3_isFineByMinutes_69 : decode cX3_isFineByMinutes 69 = .ok (.ifCond .eq 5, 3) := by decide +kernel
theorem dX3_isFineByMinutes_72 : decode cX3_isFineByMinutes 72 = .ok (.iconst 0, 1) := by decide +kernel
theorem dX3_isFineByMinutes_73 : decode cX3_isFineByMinutes 73 = .ok (.ireturn, 1) := by decide +kernel
theorem dX3_isFineByMinutes_74 : decode cX3_isFineByMinutes 74 = .ok (.iinc 1 1, 3) := by decide +kernel
theorem dX3_isFineByMinutes_77 : decode cX3_isFineByMinutes 77 = .ok (.goto (-28), 3) := by decide +kernel
theorem dX3_isFineByMinutes_80 : decode cX3_isFineByMinutes 80 = .ok (.iconst 1, 1) := by decide +kernel
theorem dX3_isFineByMinutes_81 : decode cX3_isFineByMinutes 81 = .ok (.ireturn, 1) := by decide +kernel
theorem dX3_requireRange_0 : decode cX3_requireRange 0 = .ok (.iload_n 0, 1) := by decide +kernel
theorem dX3_requireRange_1 : decode cX3_requireRange 1 = .ok (.iload_n 1, 1) := by decide +kernel
theorem dX3_requireRange_2 : decode cX3_requireRange 2 = .ok (.if_icmp .lt 8, 3) := by decide +kernel
theorem dX3_requireRange_5 : decode cX3_requireRange 5 = .ok (.iload_n 0, 1) := by decide +kernel
theorem dX3_requireRange_6 : decode cX3_requireRange 6 = .ok (.iload_n 2, 1) := by decide +kernel
theorem dX3_requireRange_7 : decode cX3_requireRange 7 = .ok (.if_icmp .le 13, 3) := by decide +kernel
theorem dX3_requireRange_10 : decode cX3_requireRange 10 = .ok (.new 202, 3) := by decide +kernel
theorem dX3_requireRange_13 : decode cX3_requireRange 13 = .ok (.dup, 1) := by decide +kernel
theorem dX3_requireRange_14 : decode cX3_requireRange 14 = .ok (.ldc 204, 2) := by decide +kernel
theorem dX3_requireRange_16 : decode cX3_requireRange 16 = .ok (.invokespecial 206, 3) := by decide +kernel
theorem dX3_requireRange_19 : decode cX3_requireRange 19 = .ok (.athrow, 1) := by decide +kernel
theorem dX3_requireRange_20 : decode cX3_requireRange 20 = .ok (.return_, 1) := by decide +kernel
theorem dX3_requireMinute_0 : decode cX3_requireMinute 0 = .ok (.iload_n 0, 1) := by decide +kernel
theorem dX3_requireMinute_1 : decode cX3_requireMinute 1 = .ok (.iconst 0, 1) := by decide +kernel
theorem dX3_requireMinute_2 : decode cX3_requireMinute 2 = .ok (.sipush 999, 3) := by decide +kernel
theorem dX3_requireMinute_5 : decode cX3_requireMinute 5 = .ok (.invokestatic 79, 3) := by decide +kernel
theorem dX3_requireMinute_8 : decode cX3_requireMinute 8 = .ok (.return_, 1) := by decide +kernel
theorem dX3_requireStage_0 : decode cX3_requireStage 0 = .ok (.iload_n 0, 1) := by decide +kernel
theorem dX3_requireStage_1 : decode cX3_requireStage 1 = .ok (.ifCond .lt 8, 3) := by decide +kernel
theorem dX3_requireStage_4 : decode cX3_requireStage 4 = .ok (.iload_n 0, 1) := by decide +kernel
theorem dX3_requireStage_5 : decode cX3_requireStage 5 = .ok (.iconst 3, 1) := by decide +kernel
theorem dX3_requireStage_6 : decode cX3_requireStage 6 = .ok (.if_icmp .lt 13, 3) := by decide +kernel
theorem dX3_requireStage_9 : decode cX3_requireStage 9 = .ok (.new 94, 3) := by decide +kernel
theorem dX3_requireStage_12 : decode cX3_requireStage 12 = .ok (.dup, 1) := by decide +kernel
theorem dX3_requireStage_13 : decode cX3_requireStage 13 = .ok (.ldc 207, 2) := by decide +kernel
theorem dX3_requireStage_15 : decode cX3_requireStage 15 = .ok (.invokespecial 98, 3) := by decide +kernel
theorem dX3_requireStage_18 : decode cX3_requireStage 18 = .ok (.athrow, 1) := by decide +kernel
theorem dX3_requireStage_19 : decode cX3_requireStage 19 = .ok (.return_, 1) := by decide +kernel
theorem dX3_requireHouse_0 : decode cX3_requireHouse 0 = .ok (.iload_n 0, 1) := by decide +kernel
theorem dX3_requireHouse_1 : decode cX3_requireHouse 1 = .ok (.ifCond .lt 8, 3) := by decide +kernel
theorem dX3_requireHouse_4 : decode cX3_requireHouse 4 = .ok (.iload_n 0, 1) := by decide +kernel
theorem dX3_requireHouse_5 : decode cX3_requireHouse 5 = .ok (.iconst 3, 1) := by decide +kernel
theorem dX3_requireHouse_6 : decode cX3_requireHouse 6 = .ok (.if_icmp .lt 13, 3) := by decide +kernel
theorem dX3_requireHouse_9 : decode cX3_requireHouse 9 = .ok (.new 94, 3) := by decide +kernel
theorem dX3_requireHouse_12 : decode cX3_requireHouse 12 = .ok (.dup, 1) := by decide +kernel
theorem dX3_requireHouse_13 : decode cX3_requireHouse 13 = .ok (.ldc 209, 2) := by decide +kernel
theorem dX3_requireHouse_15 : decode cX3_requireHouse 15 = .ok (.invokespecial 98, 3) := by decide +kernel
theorem dX3_requireHouse_18 : decode cX3_requireHouse 18 = .ok (.athrow, 1) := by decide +kernel
theorem dX3_requireHouse_19 : decode cX3_requireHouse 19 = .ok (.return_, 1) := by decide +kernel
theorem dX3_requirePhase_0 : decode cX3_requirePhase 0 = .ok (.iload_n 0, 1) := by decide +kernel
theorem dX3_requirePhase_1 : decode cX3_requirePhase 1 = .ok (.ifCond .lt 8, 3) := by decide +kernel
theorem dX3_requirePhase_4 : decode cX3_requirePhase 4 = .ok (.iload_n 0, 1) := by decide +kernel
theorem dX3_requirePhase_5 : decode cX3_requirePhase 5 = .ok (.iconst 3, 1) := by decide +kernel
theorem dX3_requirePhase_6 : decode cX3_requirePhase 6 = .ok (.if_icmp .lt 13, 3) := by decide +kernel
theorem dX3_requirePhase_9 : decode cX3_requirePhase 9 = .ok (.new 94, 3) := by decide +kernel
theorem dX3_requirePhase_12 : decode cX3_requirePhase 12 = .ok (.dup, 1) := by decide +kernel
theorem dX3_requirePhase_13 : decode cX3_requirePhase 13 = .ok (.ldc 211, 2) := by decide +kernel
theorem dX3_requirePhase_15 : decode cX3_requirePhase 15 = .ok (.invokespecial 98, 3) := by decide +kernel
theorem dX3_requirePhase_18 : decode cX3_requirePhase 18 = .ok (.athrow, 1) := by decide +kernel
theorem dX3_requirePhase_19 : decode cX3_requirePhase 19 = .ok (.return_, 1) := by decide +kernel
theorem dX3_requireAct_0 : decode cX3_requireAct 0 = .ok (.iload_n 1, 1) := by decide +kernel
theorem dX3_requireAct_1 : decode cX3_requireAct 1 = .ok (.ifCond .lt 11, 3) := by decide +kernel
theorem dX3_requireAct_4 : decode cX3_requireAct 4 = .ok (.iload_n 1, 1) := by decide +kernel
theorem dX3_requireAct_5 : decode cX3_requireAct 5 = .ok (.aload_n 0, 1) := by decide +kernel
theorem dX3_requireAct_6 : decode cX3_requireAct 6 = .ok (.getfield 114, 3) := by decide +kernel
theorem dX3_requireAct_9 : decode cX3_requireAct 9 = .ok (.if_icmp .lt 13, 3) := by decide +kernel
theorem dX3_requireAct_12 : decode cX3_requireAct 12 = .ok (.new 94, 3) := by decide +kernel
theorem dX3_requireAct_15 : decode cX3_requireAct 15 = .ok (.dup, 1) := by decide +kernel
theorem dX3_requireAct_16 : decode cX3_requireAct 16 = .ok (.ldc 213, 2) := by decide +kernel
theorem dX3_requireAct_18 : decode cX3_requireAct 18 = .ok (.invokespecial 98, 3) := by decide +kernel
theorem dX3_requireAct_21 : decode cX3_requireAct 21 = .ok (.athrow, 1) := by decide +kernel
theorem dX3_requireAct_22 : decode cX3_requireAct 22 = .ok (.return_, 1) := by decide +kernel
theorem dX3_requirePlanned_0 : decode cX3_requirePlanned 0 = .ok (.aload_n 0, 1) := by decide +kernel
theorem dX3_requirePlanned_1 : decode cX3_requirePlanned 1 = .ok (.getfield 24, 3) := by decide +kernel
theorem dX3_requirePlanned_4 : decode cX3_requirePlanned 4 = .ok (.iload_n 1, 1) := by decide +kernel
theorem dX3_requirePlanned_5 : decode cX3_requirePlanned 5 = .ok (.aaload, 1) := by decide +kernel
theorem dX3_requirePlanned_6 : decode cX3_requirePlanned 6 = .ok (.getfield 110, 3) := by decide +kernel
theorem dX3_requirePlanned_9 : decode cX3_requirePlanned 9 = .ok (.ifCond .ne 13, 3) := by decide +kernel
theorem dX3_requirePlanned_12 : decode cX3_requirePlanned 12 = .ok (.new 63, 3) := by decide +kernel
theorem dX3_requirePlanned_15 : decode cX3_requirePlanned 15 = .ok (.dup, 1) := by decide +kernel
theorem dX3_requirePlanned_16 : decode cX3_requirePlanned 16 = .ok (.ldc 215, 2) := by decide +kernel
theorem dX3_requirePlanned_18 : decode cX3_requirePlanned 18 = .ok (.invokespecial 67, 3) := by decide +kernel
theorem dX3_requirePlanned_21 : decode cX3_requirePlanned 21 = .ok (.athrow, 1) := by decide +kernel
theorem dX3_requirePlanned_22 : decode cX3_requirePlanned 22 = .ok (.return_, 1) := by decide +kernel
theorem dX3_tryAct_0 : decode cX3_tryAct 0 = .ok (.iload_n 1, 1) := by decide +kernel
theorem dX3_tryAct_1 : decode cX3_tryAct 1 = .ok (.invokestatic 76, 3) := by decide +kernel
theorem dX3_tryAct_4 : decode cX3_tryAct 4 = .ok (.iload 4, 2) := by decide +kernel
theorem dX3_tryAct_6 : decode cX3_tryAct 6 = .ok (.invokestatic 185, 3) := by decide +kernel
theorem dX3_tryAct_9 : decode cX3_tryAct 9 = .ok (.iload_n 2, 1) := by decide +kernel
theorem dX3_tryAct_10 : decode cX3_tryAct 10 = .ok (.invokestatic 55, 3) := by decide +kernel
theorem dX3_tryAct_13 : decode cX3_tryAct 13 = .ok (.iload_n 3, 1) := by decide +kernel
theorem dX3_tryAct_14 : decode cX3_tryAct 14 = .ok (.iconst 1, 1) := by decide +kernel
theorem dX3_tryAct_15 : decode cX3_tryAct 15 = .ok (.sipush 200, 3) := by decide +kernel
theorem dX3_tryAct_18 : decode cX3_tryAct 18 = .ok (.invokestatic 79, 3) := by decide +kernel
theorem dX3_tryAct_21 : decode cX3_tryAct 21 = .ok (.iload 5, 2) := by decide +kernel
theorem dX3_tryAct_23 : decode cX3_tryAct 23 = .ok (.iconst 0, 1) := by decide +kernel
theorem dX3_tryAct_24 : decode cX3_tryAct 24 = .ok (.sipush 200, 3) := by decide +kernel
theorem dX3_tryAct_27 : decode cX3_tryAct 27 = .ok (.invokestatic 79, 3) := by decide +kernel
theorem dX3_tryAct_30 : decode cX3_tryAct 30 = .ok (.iload 6, 2) := by decide +kernel
theorem dX3_tryAct_32 : decode cX3_tryAct 32 = .ok (.iconst 0, 1) := by decide +kernel
theorem dX3_tryAct_33 : decode cX3_tryAct 33 = .ok (.sipush 200, 3) := by decide +kernel
theorem dX3_tryAct_36 : decode cX3_tryAct 36 = .ok (.invokestatic 79, 3) := by decide +kernel
theorem dX3_tryAct_39 : decode cX3_tryAct 39 = .ok (.iload 7, 2) := by decide +kernel
theorem dX3_tryAct_41 : decode cX3_tryAct 41 = .ok (.iconst (-1), 1) := by decide +kernel
theorem dX3_tryAct_42 : decode cX3_tryAct 42 = .ok (.bipush 31, 2) := by decide +kernel
theorem dX3_tryAct_44 : decode cX3_tryAct 44 = .ok (.invokestatic 79, 3) := by decide +kernel
theorem dX3_tryAct_47 : decode cX3_tryAct 47 = .ok (.aload_n 0, 1) := by decide +kernel
theorem dX3_tryAct_48 : decode cX3_tryAct 48 = .ok (.getfield 114, 3) := by decide +kernel
theorem dX3_tryAct_51 : decode cX3_tryAct 51 = .ok (.bipush 16, 2) := by decide +kernel
theorem dX3_tryAct_53 : decode cX3_tryAct 53 = .ok (.if_icmp .lt 13, 3) := by decide +kernel
theorem dX3_tryAct_56 : decode cX3_tryAct 56 = .ok (.new 63, 3) := by decide +kernel
theorem dX3_tryAct_59 : decode cX3_tryAct 59 = .ok (.dup, 1) := by decide +kernel
theorem dX3_tryAct_60 : decode cX3_tryAct 60 = .ok (.ldc 217, 2) := by decide +kernel
theorem dX3_tryAct_62 : decode cX3_tryAct 62 = .ok (.invokespecial 67, 3) := by decide +kernel
theorem dX3_tryAct_65 : decode cX3_tryAct 65 = .ok (.athrow, 1) := by decide +kernel
theorem dX3_tryAct_66 : decode cX3_tryAct 66 = .ok (.aload_n 0, 1) := by decide +kernel
theorem dX3_tryAct_67 : decode cX3_tryAct 67 = .ok (.getfield 24, 3) := by decide +kernel
theorem dX3_tryAct_70 : decode cX3_tryAct 70 = .ok (.aload_n 0, 1) := by decide +kernel
theorem dX3_tryAct_71 : decode cX3_tryAct 71 = .ok (.getfield 114, 3) := by decide +kernel
theorem dX3_tryAct_74 : decode cX3_tryAct 74 = .ok (.aaload, 1) := by decide +kernel
theorem dX3_tryAct_75 : decode cX3_tryAct 75 = .ok (.astore 8, 2) := by decide +kernel
theorem dX3_tryAct_77 : decode cX3_tryAct 77 = .ok (.aload 8, 2) := by decide +kernel
theorem dX3_tryAct_79 : decode cX3_tryAct 79 = .ok (.iload_n 1, 1) := by decide +kernel
theorem dX3_tryAct_80 : decode cX3_tryAct 80 = .ok (.putfield 219, 3) := by decide +kernel
theorem dX3_tryAct_83 : decode cX3_tryAct 83 = .ok (.aload 8, 2) := by decide +kernel
theorem dX3_tryAct_85 : decode cX3_tryAct 85 = .ok (.iload_n 2, 1) := by decide +kernel
theorem dX3_tryAct_86 : decode cX3_tryAct 86 = .ok (.putfield 123, 3) := by decide +kernel
theorem dX3_tryAct_89 : decode cX3_tryAct 89 = .ok (.aload 8, 2) := by decide +kernel
theorem dX3_tryAct_91 : decode cX3_tryAct 91 = .ok (.iload_n 3, 1) := by decide +kernel
theorem dX3_tryAct_92 : decode cX3_tryAct 92 = .ok (.putfield 220, 3) := by decide +kernel
theorem dX3_tryAct_95 : decode cX3_tryAct 95 = .ok (.aload 8, 2) := by decide +kernel
theorem dX3_tryAct_97 : decode cX3_tryAct 97 = .ok (.iload 4, 2) := by decide +kernel
theorem dX3_tryAct_99 : decode cX3_tryAct 99 = .ok (.putfield 222, 3) := by decide +kernel
theorem dX3_tryAct_102 : decode cX3_tryAct 102 = .ok (.aload 8, 2) := by decide +kernel
theorem dX3_tryAct_104 : decode cX3_tryAct 104 = .ok (.iload 5, 2) := by decide +kernel
theorem dX3_tryAct_106 : decode cX3_tryAct 106 = .ok (.putfield 149, 3) := by decide +kernel
theorem dX3_tryAct_109 : decode cX3_tryAct 109 = .ok (.aload 8, 2) := by decide +kernel
theorem dX3_tryAct_111 : decode cX3_tryAct 111 = .ok (.iload 6, 2) := by decide +kernel
theorem dX3_tryAct_113 : decode cX3_tryAct 113 = .ok (.putfield 152, 3) := by decide +kernel
theorem dX3_tryAct_116 : decode cX3_tryAct 116 = .ok (.aload 8, 2) := by decide +kernel
theorem dX3_tryAct_118 : decode cX3_tryAct 118 = .ok (.iload 7, 2) := by decide +kernel
theorem dX3_tryAct_120 : decode cX3_tryAct 120 = .ok (.putfield 155, 3) := by decide +kernel
theorem dX3_tryAct_123 : decode cX3_tryAct 123 = .ok (.aload 8, 2) := by decide +kernel
theorem dX3_tryAct_125 : decode cX3_tryAct 125 = .ok (.iconst 1, 1) := by decide +kernel
theorem dX3_tryAct_126 : decode cX3_tryAct 126 = .ok (.putfield 110, 3) := by decide +kernel
theorem dX3_tryAct_129 : decode cX3_tryAct 129 = .ok (.aload 8, 2) := by decide +kernel
theorem dX3_tryAct_131 : decode cX3_tryAct 131 = .ok (.areturn, 1) := by decide +kernel
theorem dX3_isStageFine_0 : decode cX3_isStageFine 0 = .ok (.aload_n 0, 1) := by decide +kernel
theorem dX3_isStageFine_1 : decode cX3_isStageFine 1 = .ok (.getfield 24, 3) := by decide +kernel
theorem dX3_isStageFine_4 : decode cX3_isStageFine 4 = .ok (.astore_n 2, 1) := by decide +kernel
theorem dX3_isStageFine_5 : decode cX3_isStageFine 5 = .ok (.aload_n 2, 1) := by decide +kernel
theorem dX3_isStageFine_6 : decode cX3_isStageFine 6 = .ok (.arraylength, 1) := by decide +kernel
theorem dX3_isStageFine_7 : decode cX3_isStageFine 7 = .ok (.istore_n 3, 1) := by decide +kernel
theorem dX3_isStageFine_8 : decode cX3_isStageFine 8 = .ok (.iconst 0, 1) := by decide +kernel
theorem dX3_isStageFine_9 : decode cX3_isStageFine 9 = .ok (.istore 4, 2) := by decide +kernel
theorem dX3_isStageFine_11 : decode cX3_isStageFine 11 = .ok (.iload 4, 2) := by decide +kernel
theorem dX3_isStageFine_13 : decode cX3_isStageFine 13 = .ok (.iload_n 3, 1) := by decide +kernel
theorem dX3_isStageFine_14 : decode cX3_isStageFine 14 = .ok (.if_icmp .ge 43, 3) := by decide +kernel
theorem dX3_isStageFine_17 : decode cX3_isStageFine 17 = .ok (.aload_n 2, 1) := by decide +kernel
theorem dX3_isStageFine_18 : decode cX3_isStageFine 18 = .ok (.iload 4, 2) := by decide +kernel
theorem dX3_isStageFine_20 : decode cX3_isStageFine 20 = .ok (.aaload, 1) := by decide +kernel
theorem dX3_isStageFine_21 : decode cX3_isStageFine 21 = .ok (.astore 5, 2) := by decide +kernel
theorem dX3_isStageFine_23 : decode cX3_isStageFine 23 = .ok (.aload 5, 2) := by decide +kernel
theorem dX3_isStageFine_25 : decode cX3_isStageFine 25 = .ok (.getfield 110, 3) := by decide +kernel
theorem dX3_isStageFine_28 : decode cX3_isStageFine 28 = .ok (.ifCond .eq 23, 3) := by decide +kernel
theorem dX3_isStageFine_31 : decode cX3_isStageFine 31 = .ok (.aload 5, 2) := by decide +kernel
theorem dX3_isStageFine_33 : decode cX3_isStageFine 33 = .ok (.getfield 219, 3) := by decide +kernel
theorem dX3_isStageFine_36 : decode cX3_isStageFine 36 = .ok (.iload_n 1, 1) := by decide +kernel
theorem dX3_isStageFine_37 : decode cX3_isStageFine 37 = .ok (.if_icmp .ne 14, 3) := by decide +kernel
theorem dX3_isStageFine_40 : decode cX3_isStageFine 40 = .ok (.aload_n 0, 1) := by decide +kernel
theorem dX3_isStageFine_41 : decode cX3_isStageFine 41 = .ok (.aload 5, 2) := by decide +kernel
theorem dX3_isStageFine_43 : decode cX3_isStageFine 43 = .ok (.invokevirtual 225, 3) := by decide +kernel
theorem dX3_isStageFine_46 : decode cX3_isStageFine 46 = .ok (.ifCond .ne 5, 3) := by decide +kernel
theorem dX3_isStageFine_49 : decode cX3_isStageFine 49 = .ok (.iconst 0, 1) := by decide +kernel
theorem dX3_isStageFine_50 : decode cX3_isStageFine 50 = .ok (.ireturn, 1) := by decide +kernel
theorem dX3_isStageFine_51 : decode cX3_isStageFine 51 = .ok (.iinc 4 1, 3) := by decide +kernel
theorem dX3_isStageFine_54 : decode cX3_isStageFine 54 = .ok (.goto (-43), 3) := by decide +kernel
theorem dX3_isStageFine_57 : decode cX3_isStageFine 57 = .ok (.iconst 1, 1) := by decide +kernel
theorem dX3_isStageFine_58 : decode cX3_isStageFine 58 = .ok (.ireturn, 1) := by decide +kernel
theorem dX3_fitsOnStage_0 : decode cX3_fitsOnStage 0 = .ok (.aload_n 1, 1) := by decide +kernel
theorem dX3_fitsOnStage_1 : decode cX3_fitsOnStage 1 = .ok (.invokevirtual 194, 3) := by decide +kernel
theorem dX3_fitsOnStage_4 : decode cX3_fitsOnStage 4 = .ok (.sipush 1000, 3) := by decide +kernel
theorem dX3_fitsOnStage_7 : decode cX3_fitsOnStage 7 = .ok (.if_icmp .le 5, 3) := by decide +kernel
theorem dX3_fitsOnStage_10 : decode cX3_fitsOnStage 10 = .ok (.iconst 0, 1) := by decide +kernel
theorem dX3_fitsOnStage_11 : decode cX3_fitsOnStage 11 = .ok (.ireturn, 1) := by decide +kernel
theorem dX3_fitsOnStage_12 : decode cX3_fitsOnStage 12 = .ok (.aload_n 0, 1) := by decide +kernel
theorem dX3_fitsOnStage_13 : decode cX3_fitsOnStage 13 = .ok (.getfield 37, 3) := by decide +kernel
theorem dX3_fitsOnStage_16 : decode cX3_fitsOnStage 16 = .ok (.astore_n 2, 1) := by decide +kernel
theorem dX3_fitsOnStage_17 : decode cX3_fitsOnStage 17 = .ok (.aload_n 2, 1) := by decide +kernel
theorem dX3_fitsOnStage_18 : decode cX3_fitsOnStage 18 = .ok (.arraylength, 1) := by decide +kernel
theorem dX3_fitsOnStage_19 : decode cX3_fitsOnStage 19 = .ok (.istore_n 3, 1) := by decide +kernel
theorem dX3_fitsOnStage_20 : decode cX3_fitsOnStage 20 = .ok (.iconst 0, 1) := by decide +kernel
theorem dX3_fitsOnStage_21 : decode cX3_fitsOnStage 21 = .ok (.istore 4, 2) := by decide +kernel
theorem dX3_fitsOnStage_23 : decode cX3_fitsOnStage 23 = .ok (.iload 4, 2) := by decide +kernel
theorem dX3_fitsOnStage_25 : decode cX3_fitsOnStage 25 = .ok (.iload_n 3, 1) := by decide +kernel
theorem dX3_fitsOnStage_26 : decode cX3_fitsOnStage 26 = .ok (.if_icmp .ge 26, 3) := by decide +kernel
theorem dX3_fitsOnStage_29 : decode cX3_fitsOnStage 29 = .ok (.aload_n 2, 1) := by decide +kernel
theorem dX3_fitsOnStage_30 : decode cX3_fitsOnStage 30 = .ok (.iload 4, 2) := by decide +kernel
theorem dX3_fitsOnStage_32 : decode cX3_fitsOnStage 32 = .ok (.aaload, 1) := by decide +kernel
theorem dX3_fitsOnStage_33 : decode cX3_fitsOnStage 33 = .ok (.astore 5, 2) := by decide +kernel
theorem dX3_fitsOnStage_35 : decode cX3_fitsOnStage 35 = .ok (.aload 5, 2) := by decide +kernel
theorem dX3_fitsOnStage_37 : decode cX3_fitsOnStage 37 = .ok (.aload_n 1, 1) := by decide +kernel
theorem dX3_fitsOnStage_38 : decode cX3_fitsOnStage 38 = .ok (.invokevirtual 229, 3) := by decide +kernel
theorem dX3_fitsOnStage_41 : decode cX3_fitsOnStage 41 = .ok (.ifCond .eq 5, 3) := by decide +kernel
theorem dX3_fitsOnStage_44 : decode cX3_fitsOnStage 44 = .ok (.iconst 0, 1) := by decide +kernel
theorem dX3_fitsOnStage_45 : decode cX3_fitsOnStage 45 = .ok (.ireturn, 1) := by decide +kernel
theorem dX3_fitsOnStage_46 : decode cX3_fitsOnStage 46 = .ok (.iinc 4 1, 3) := by decide +kernel
theorem dX3_fitsOnStage_49 : decode cX3_fitsOnStage 49 = .ok (.goto (-26), 3) := by decide +kernel
theorem dX3_fitsOnStage_52 : decode cX3_fitsOnStage 52 = .ok (.aload_n 0, 1) := by decide +kernel
theorem dX3_fitsOnStage_53 : decode cX3_fitsOnStage 53 = .ok (.getfield 13, 3) := by decide +kernel
theorem dX3_fitsOnStage_56 : decode cX3_fitsOnStage 56 = .ok (.aload_n 1, 1) := by decide +kernel
theorem dX3_fitsOnStage_57 : decode cX3_fitsOnStage 57 = .ok (.getfield 219, 3) := by decide +kernel
theorem dX3_fitsOnStage_60 : decode cX3_fitsOnStage 60 = .ok (.iaload, 1) := by decide +kernel
theorem dX3_fitsOnStage_61 : decode cX3_fitsOnStage 61 = .ok (.istore_n 2, 1) := by decide +kernel
theorem dX3_fitsOnStage_62 : decode cX3_fitsOnStage 62 = .ok (.aload_n 0, 1) := by decide +kernel
theorem dX3_fitsOnStage_63 : decode cX3_fitsOnStage 63 = .ok (.getfield 24, 3) := by decide +kernel
theorem dX3_fitsOnStage_66 : decode cX3_fitsOnStage 66 = .ok (.astore_n 3, 1) := by decide +kernel
theorem dX3_fitsOnStage_67 : decode cX3_fitsOnStage 67 = .ok (.aload_n 3, 1) := by decide +kernel
theorem dX3_fitsOnStage_68 : decode cX3_fitsOnStage 68 = .ok (.arraylength, 1) := by decide +kernel
theorem dX3_fitsOnStage_69 : decode cX3_fitsOnStage 69 = .ok (.istore 4, 2) := by decide +kernel
theorem dX3_fitsOnStage_71 : decode cX3_fitsOnStage 71 = .ok (.iconst 0, 1) := by decide +kernel
theorem dX3_fitsOnStage_72 : decode cX3_fitsOnStage 72 = .ok (.istore 5, 2) := by decide +kernel
theorem dX3_fitsOnStage_74 : decode cX3_fitsOnStage 74 = .ok (.iload 5, 2) := by decide +kernel
theorem dX3_fitsOnStage_76 : decode cX3_fitsOnStage 76 = .ok (.iload 4, 2) := by decide +kernel
theorem dX3_fitsOnStage_78 : decode cX3_fitsOnStage 78 = .ok (.if_icmp .ge 53, 3) := by decide +kernel
theorem dX3_fitsOnStage_81 : decode cX3_fitsOnStage 81 = .ok (.aload_n 3, 1) := by decide +kernel
theorem dX3_fitsOnStage_82 : decode cX3_fitsOnStage 82 = .ok (.iload 5, 2) := by decide +kernel
theorem dX3_fitsOnStage_84 : decode cX3_fitsOnStage 84 = .ok (.aaload, 1) := by decide +kernel
theorem dX3_fitsOnStage_85 : decode cX3_fitsOnStage 85 = .ok (.astore 6, 2) := by decide +kernel
theorem dX3_fitsOnStage_87 : decode cX3_fitsOnStage 87 = .ok (.aload 6, 2) := by decide +kernel
theorem dX3_fitsOnStage_89 : decode cX3_fitsOnStage 89 = .ok (.aload_n 1, 1) := by decide +kernel
theorem dX3_fitsOnStage_90 : decode cX3_fitsOnStage 90 = .ok (.if_acmp .eq 35, 3) := by decide +kernel
theorem dX3_fitsOnStage_93 : decode cX3_fitsOnStage 93 = .ok (.aload 6, 2) := by decide +kernel
theorem dX3_fitsOnStage_95 : decode cX3_fitsOnStage 95 = .ok (.getfield 110, 3) := by decide +kernel
theorem dX3_fitsOnStage_98 : decode cX3_fitsOnStage 98 = .ok (.ifCond .eq 27, 3) := by decide +kernel
theorem dX3_fitsOnStage_101 : decode cX3_fitsOnStage 101 = .ok (.aload 6, 2) := by decide +kernel
theorem dX3_fitsOnStage_103 : decode cX3_fitsOnStage 103 = .ok (.getfield 219, 3) := by decide +kernel
theorem dX3_fitsOnStage_106 : decode cX3_fitsOnStage 106 = .ok (.aload_n 1, 1) := by decide +kernel
theorem dX3_fitsOnStage_107 : decode cX3_fitsOnStage 107 = .ok (.getfield 219, 3) := by decide +kernel
theorem dX3_fitsOnStage_110 : decode cX3_fitsOnStage 110 = .ok (.if_icmp .ne 15, 3) := by decide +kernel
theorem dX3_fitsOnStage_113 : decode cX3_fitsOnStage 113 = .ok (.aload_n 1, 1) := by decide +kernel
theorem dX3_fitsOnStage_114 : decode cX3_fitsOnStage 114 = .ok (.aload 6, 2) := by decide +kernel
theorem dX3_fitsOnStage_116 : decode cX3_fitsOnStage 116 = .ok (.iload_n 2, 1) := by decide +kernel
theorem dX3_fitsOnStage_117 : decode cX3_fitsOnStage 117 = .ok (.invokevirtual 232, 3) := by decide +kernel
theorem dX3_fitsOnStage_120 : decode cX3_fitsOnStage 120 = .ok (.ifCond .eq 5, 3) := by decide +kernel
theorem dX3_fitsOnStage_123 : decode cX3_fitsOnStage 123 = .ok (.iconst 0, 1) := by decide +kernel
theorem dX3_fitsOnStage_124 : decode cX3_fitsOnStage 124 = .ok (.ireturn, 1) := by decide +kernel
theorem dX3_fitsOnStage_125 : decode cX3_fitsOnStage 125 = .ok (.iinc 5 1, 3) := by decide +kernel
theorem dX3_fitsOnStage_128 : decode cX3_fitsOnStage 128 = .ok (.goto (-54), 3) := by decide +kernel
theorem dX3_fitsOnStage_131 : decode cX3_fitsOnStage 131 = .ok (.iconst 1, 1) := by decide +kernel
theorem dX3_fitsOnStage_132 : decode cX3_fitsOnStage 132 = .ok (.ireturn, 1) := by decide +kernel
theorem dX3_areStagesFineAt_0 : decode cX3_areStagesFineAt 0 = .ok (.aload_n 0, 1) := by decide +kernel
theorem dX3_areStagesFineAt_1 : decode cX3_areStagesFineAt 1 = .ok (.getfield 24, 3) := by decide +kernel
theorem dX3_areStagesFineAt_4 : decode cX3_areStagesFineAt 4 = .ok (.astore_n 2, 1) := by decide +kernel
theorem dX3_areStagesFineAt_5 : decode cX3_areStagesFineAt 5 = .ok (.aload_n 2, 1) := by decide +kernel
theorem dX3_areStagesFineAt_6 : decode cX3_areStagesFineAt 6 = .ok (.arraylength, 1) := by decide +kernel
theorem dX3_areStagesFineAt_7 : decode cX3_areStagesFineAt 7 = .ok (.istore_n 3, 1) := by decide +kernel
theorem dX3_areStagesFineAt_8 : decode cX3_areStagesFineAt 8 = .ok (.iconst 0, 1) := by decide +kernel
theorem dX3_areStagesFineAt_9 : decode cX3_areStagesFineAt 9 = .ok (.istore 4, 2) := by decide +kernel
theorem dX3_areStagesFineAt_11 : decode cX3_areStagesFineAt 11 = .ok (.iload 4, 2) := by decide +kernel
theorem dX3_areStagesFineAt_13 : decode cX3_areStagesFineAt 13 = .ok (.iload_n 3, 1) := by decide +kernel
theorem dX3_areStagesFineAt_14 : decode cX3_areStagesFineAt 14 = .ok (.if_icmp .ge 49, 3) := by decide +kernel
theorem dX3_areStagesFineAt_17 : decode cX3_areStagesFineAt 17 = .ok (.aload_n 2, 1) := by decide +kernel
theorem dX3_areStagesFineAt_18 : decode cX3_areStagesFineAt 18 = .ok (.iload 4, 2) := by decide +kernel
theorem dX3_areStagesFineAt_20 : decode cX3_areStagesFineAt 20 = .ok (.aaload, 1) := by decide +kernel
theorem dX3_areStagesFineAt_21 : decode cX3_areStagesFineAt 21 = .ok (.astore 5, 2) := by decide +kernel
theorem dX3_areStagesFineAt_23 : decode cX3_areStagesFineAt 23 = .ok (.aload 5, 2) := by decide +kernel
theorem dX3_areStagesFineAt_25 : decode cX3_areStagesFineAt 25 = .ok (.iload_n 1, 1) := by decide +kernel
theorem dX3_areStagesFineAt_26 : decode cX3_areStagesFineAt 26 = .ok (.invokevirtual 236, 3) := by decide +kernel
theorem dX3_areStagesFineAt_29 : decode cX3_areStagesFineAt 29 = .ok (.ifCond .eq 28, 3) := by decide +kernel
theorem dX3_areStagesFineAt_32 : decode cX3_areStagesFineAt 32 = .ok (.aload_n 0, 1) := by decide +kernel
theorem dX3_areStagesFineAt_33 : decode cX3_areStagesFineAt 33 = .ok (.aload 5, 2) := by decide +kernel
theorem dX3_areStagesFineAt_35 : decode cX3_areStagesFineAt 35 = .ok (.getfield 219, 3) := by decide +kernel
theorem dX3_areStagesFineAt_38 : decode cX3_areStagesFineAt 38 = .ok (.iload_n 1, 1) := by decide +kernel
theorem dX3_areStagesFineAt_39 : decode cX3_areStagesFineAt 39 = .ok (.invokevirtual 239, 3) := by decide +kernel
theorem dX3_areStagesFineAt_42 : decode cX3_areStagesFineAt 42 = .ok (.ifCond .ne 13, 3) := by decide +kernel
theorem dX3_areStagesFineAt_45 : decode cX3_areStagesFineAt 45 = .ok (.aload_n 0, 1) := by decide +kernel
theorem dX3_areStagesFineAt_46 : decode cX3_areStagesFineAt 46 = .ok (.aload 5, 2) := by decide +kernel
theorem dX3_areStagesFineAt_48 : decode cX3_areStagesFineAt 48 = .ok (.iload_n 1, 1) := by decide +kernel
theorem dX3_areStagesFineAt_49 : decode cX3_areStagesFineAt 49 = .ok (.invokevirtual 243, 3) := by decide +kernel
theorem dX3_areStagesFineAt_52 : decode cX3_areStagesFineAt 52 = .ok (.ifCond .eq 5, 3) := by decide +kernel
theorem dX3_areStagesFineAt_55 : decode cX3_areStagesFineAt 55 = .ok (.iconst 0, 1) := by decide +kernel
theorem dX3_areStagesFineAt_56 : decode cX3_areStagesFineAt 56 = .ok (.ireturn, 1) := by decide +kernel
theorem dX3_areStagesFineAt_57 : decode cX3_areStagesFineAt 57 = .ok (.iinc 4 1, 3) := by decide +kernel
theorem dX3_areStagesFineAt_60 : decode cX3_areStagesFineAt 60 = .ok (.goto (-49), 3) := by decide +kernel
theorem dX3_areStagesFineAt_63 : decode cX3_areStagesFineAt 63 = .ok (.iconst 1, 1) := by decide +kernel
theorem dX3_areStagesFineAt_64 : decode cX3_areStagesFineAt 64 = .ok (.ireturn, 1) := by decide +kernel
theorem dX3_isStormyAt_0 : decode cX3_isStormyAt 0 = .ok (.aload_n 0, 1) := by decide +kernel
theorem dX3_isStormyAt_1 : decode cX3_isStormyAt 1 = .ok (.getfield 37, 3) := by decide +kernel
theorem dX3_isStormyAt_4 : decode cX3_isStormyAt 4 = .ok (.astore_n 3, 1) := by decide +kernel
theorem dX3_isStormyAt_5 : decode cX3_isStormyAt 5 = .ok (.aload_n 3, 1) := by decide +kernel
theorem dX3_isStormyAt_6 : decode cX3_isStormyAt 6 = .ok (.arraylength, 1) := by decide +kernel
theorem dX3_isStormyAt_7 : decode cX3_isStormyAt 7 = .ok (.istore 4, 2) := by decide +kernel
theorem dX3_isStormyAt_9 : decode cX3_isStormyAt 9 = .ok (.iconst 0, 1) := by decide +kernel
theorem dX3_isStormyAt_10 : decode cX3_isStormyAt 10 = .ok (.istore 5, 2) := by decide +kernel
theorem dX3_isStormyAt_12 : decode cX3_isStormyAt 12 = .ok (.iload 5, 2) := by decide +kernel
theorem dX3_isStormyAt_14 : decode cX3_isStormyAt 14 = .ok (.iload 4, 2) := by decide +kernel
theorem dX3_isStormyAt_16 : decode cX3_isStormyAt 16 = .ok (.if_icmp .ge 44, 3) := by decide +kernel
theorem dX3_isStormyAt_19 : decode cX3_isStormyAt 19 = .ok (.aload_n 3, 1) := by decide +kernel
theorem dX3_isStormyAt_20 : decode cX3_isStormyAt 20 = .ok (.iload 5, 2) := by decide +kernel
theorem dX3_isStormyAt_22 : decode cX3_isStormyAt 22 = .ok (.aaload, 1) := by decide +kernel
theorem dX3_isStormyAt_23 : decode cX3_isStormyAt 23 = .ok (.astore 6, 2) := by decide +kernel
theorem dX3_isStormyAt_25 : decode cX3_isStormyAt 25 = .ok (.aload 6, 2) := by decide +kernel
theorem dX3_isStormyAt_27 : decode cX3_isStormyAt 27 = .ok (.getfield 169, 3) := by decide +kernel
theorem dX3_isStormyAt_30 : decode cX3_isStormyAt 30 = .ok (.iload_n 1, 1) := by decide +kernel
theorem dX3_isStormyAt_31 : decode cX3_isStormyAt 31 = .ok (.if_icmp .ne 23, 3) := by decide +kernel
theorem dX3_isStormyAt_34 : decode cX3_isStormyAt 34 = .ok (.iload_n 2, 1) := by decide +kernel
theorem dX3_isStormyAt_35 : decode cX3_isStormyAt 35 = .ok (.aload 6, 2) := by decide +kernel
theorem dX3_isStormyAt_37 : decode cX3_isStormyAt 37 = .ok (.getfield 172, 3) := by decide +kernel
theorem dX3_isStormyAt_40 : decode cX3_isStormyAt 40 = .ok (.if_icmp .lt 14, 3) := by decide +kernel
theorem dX3_isStormyAt_43 : decode cX3_isStormyAt 43 = .ok (.iload_n 2, 1) := by decide +kernel
theorem dX3_isStormyAt_44 : decode cX3_isStormyAt 44 = .ok (.aload 6, 2) := by decide +kernel
theorem dX3_isStormyAt_46 : decode cX3_isStormyAt 46 = .ok (.getfield 175, 3) := by decide +kernel
theorem dX3_isStormyAt_49 : decode cX3_isStormyAt 49 = .ok (.if_icmp .ge 5, 3) := by decide +kernel
theorem dX3_isStormyAt_52 : decode cX3_isStormyAt 52 = .ok (.iconst 1, 1) := by decide +kernel
theorem dX3_isStormyAt_53 : decode cX3_isStormyAt 53 = .ok (.ireturn, 1) := by decide +kernel
theorem dX3_isStormyAt_54 : decode cX3_isStormyAt 54 = .ok (.iinc 5 1, 3) := by decide +kernel
theorem dX3_isStormyAt_57 : decode cX3_isStormyAt 57 = .ok (.goto (-45), 3) := by decide +kernel
theorem dX3_isStormyAt_60 : decode cX3_isStormyAt 60 = .ok (.iconst 0, 1) := by decide +kernel
theorem dX3_isStormyAt_61 : decode cX3_isStormyAt 61 = .ok (.ireturn, 1) := by decide +kernel
theorem dX3_isHeldByAnother_0 : decode cX3_isHeldByAnother 0 = .ok (.aload_n 0, 1) := by decide +kernel
theorem dX3_isHeldByAnother_1 : decode cX3_isHeldByAnother 1 = .ok (.getfield 13, 3) := by decide +kernel
theorem dX3_isHeldByAnother_4 : decode cX3_isHeldByAnother 4 = .ok (.aload_n 1, 1) := by decide +kernel
theorem dX3_isHeldByAnother_5 : decode cX3_isHeldByAnother 5 = .ok (.getfield 219, 3) := by decide +kernel
theorem dX3_isHeldByAnother_8 : decode cX3_isHeldByAnother 8 = .ok (.iaload, 1) := by decide +kernel
theorem dX3_isHeldByAnother_9 : decode cX3_isHeldByAnother 9 = .ok (.istore_n 3, 1) := by decide +kernel
theorem dX3_isHeldByAnother_10 : decode cX3_isHeldByAnother 10 = .ok (.aload_n 0, 1) := by decide +kernel
theorem dX3_isHeldByAnother_11 : decode cX3_isHeldByAnother 11 = .ok (.getfield 24, 3) := by decide +kernel
theorem dX3_isHeldByAnother_14 : decode cX3_isHeldByAnother 14 = .ok (.astore 4, 2) := by decide +kernel
theorem dX3_isHeldByAnother_16 : decode cX3_isHeldByAnother 16 = .ok (.aload 4, 2) := by decide +kernel
theorem dX3_isHeldByAnother_18 : decode cX3_isHeldByAnother 18 = .ok (.arraylength, 1) := by decide +kernel
theorem dX3_isHeldByAnother_19 : decode cX3_isHeldByAnother 19 = .ok (.istore 5, 2) := by decide +kernel
theorem dX3_isHeldByAnother_21 : decode cX3_isHeldByAnother 21 = .ok (.iconst 0, 1) := by decide +kernel
theorem dX3_isHeldByAnother_22 : decode cX3_isHeldByAnother 22 = .ok (.istore 6, 2) := by decide +kernel
theorem dX3_isHeldByAnother_24 : decode cX3_isHeldByAnother 24 = .ok (.iload 6, 2) := by decide +kernel
theorem dX3_isHeldByAnother_26 : decode cX3_isHeldByAnother 26 = .ok (.iload 5, 2) := by decide +kernel
theorem dX3_isHeldByAnother_28 : decode cX3_isHeldByAnother 28 = .ok (.if_icmp .ge 64, 3) := by decide +kernel
theorem dX3_isHeldByAnother_31 : decode cX3_isHeldByAnother 31 = .ok (.aload 4, 2) := by decide +kernel
theorem dX3_isHeldByAnother_33 : decode cX3_isHeldByAnother 33 = .ok (.iload 6, 2) := by decide +kernel
theorem dX3_isHeldByAnother_35 : decode cX3_isHeldByAnother 35 = .ok (.aaload, 1) := by decide +kernel
theorem dX3_isHeldByAnother_36 : decode cX3_isHeldByAnother 36 = .ok (.astore 7, 2) := by decide +kernel
theorem dX3_isHeldByAnother_38 : decode cX3_isHeldByAnother 38 = .ok (.aload 7, 2) := by decide +kernel
theorem dX3_isHeldByAnother_40 : decode cX3_isHeldByAnother 40 = .ok (.aload_n 1, 1) := by decide +kernel
theorem dX3_isHeldByAnother_41 : decode cX3_isHeldByAnother 41 = .ok (.if_acmp .eq 45, 3) := by decide +kernel
theorem dX3_isHeldByAnother_44 : decode cX3_isHeldByAnother 44 = .ok (.aload 7, 2) := by decide +kernel
theorem dX3_isHeldByAnother_46 : decode cX3_isHeldByAnother 46 = .ok (.getfield 110, 3) := by decide +kernel
theorem dX3_isHeldByAnother_49 : decode cX3_isHeldByAnother 49 = .ok (.ifCond .eq 37, 3) := by decide +kernel
theorem dX3_isHeldByAnother_52 : decode cX3_isHeldByAnother 52 = .ok (.aload 7, 2) := by decide +kernel
theorem dX3_isHeldByAnother_54 : decode cX3_isHeldByAnother 54 = .ok (.getfield 219, 3) := by decide +kernel
theorem dX3_isHeldByAnother_57 : decode cX3_isHeldByAnother 57 = .ok (.aload_n 1, 1) := by decide +kernel
theorem dX3_isHeldByAnother_58 : decode cX3_isHeldByAnother 58 = .ok (.getfield 219, 3) := by decide +kernel
theorem dX3_isHeldByAnother_61 : decode cX3_isHeldByAnother 61 = .ok (.if_icmp .ne 25, 3) := by decide +kernel
theorem dX3_isHeldByAnother_64 : decode cX3_isHeldByAnother 64 = .ok (.iload_n 2, 1) := by decide +kernel
theorem dX3_isHeldByAnother_65 : decode cX3_isHeldByAnother 65 = .ok (.aload 7, 2) := by decide +kernel
theorem dX3_isHeldByAnother_67 : decode cX3_isHeldByAnother 67 = .ok (.getfield 123, 3) := by decide +kernel
theorem dX3_isHeldByAnother_70 : decode cX3_isHeldByAnother 70 = .ok (.if_icmp .lt 16, 3) := by decide +kernel
theorem dX3_isHeldByAnother_73 : decode cX3_isHeldByAnother 73 = .ok (.iload_n 2, 1) := by decide +kernel
theorem dX3_isHeldByAnother_74 : decode cX3_isHeldByAnother 74 = .ok (.aload 7, 2) := by decide +kernel
theorem dX3_isHeldByAnother_76 : decode cX3_isHeldByAnother 76 = .ok (.invokevirtual 194, 3) := by decide +kernel
theorem dX3_isHeldByAnother_79 : decode cX3_isHeldByAnother 79 = .ok (.iload_n 3, 1) := by decide +kernel
theorem dX3_isHeldByAnother_80 : decode cX3_isHeldByAnother 80 = .ok (.iadd, 1) := by decide +kernel
theorem dX3_isHeldByAnother_81 : decode cX3_isHeldByAnother 81 = .ok (.if_icmp .ge 5, 3) := by decide +kernel
theorem dX3_isHeldByAnother_84 : decode cX3_isHeldByAnother 84 = .ok (.iconst 1, 1) := by decide +kernel
theorem dX3_isHeldByAnother_85 : decode cX3_isHeldByAnother 85 = .ok (.ireturn, 1) := by decide +kernel
theorem dX3_isHeldByAnother_86 : decode cX3_isHeldByAnother 86 = .ok (.iinc 6 1, 3) := by decide +kernel
theorem dX3_isHeldByAnother_89 : decode cX3_isHeldByAnother 89 = .ok (.goto (-65), 3) := by decide +kernel
theorem dX3_isHeldByAnother_92 : decode cX3_isHeldByAnother 92 = .ok (.iconst 0, 1) := by decide +kernel
theorem dX3_isHeldByAnother_93 : decode cX3_isHeldByAnother 93 = .ok (.ireturn, 1) := by decide +kernel
theorem dX3_brokenBy_0 : decode cX3_brokenBy 0 = .ok (.aload_n 0, 1) := by decide +kernel
theorem dX3_brokenBy_1 : decode cX3_brokenBy 1 = .ok (.aload_n 1, 1) := by decide +kernel
theorem dX3_brokenBy_2 : decode cX3_brokenBy 2 = .ok (.invokevirtual 225, 3) := by decide +kernel
theorem dX3_brokenBy_5 : decode cX3_brokenBy 5 = .ok (.ifCond .ne 5, 3) := by decide +kernel
theorem dX3_brokenBy_8 : decode cX3_brokenBy 8 = .ok (.iconst 1, 1) := by decide +kernel
theorem dX3_brokenBy_9 : decode cX3_brokenBy 9 = .ok (.ireturn, 1) := by decide +kernel
theorem dX3_brokenBy_10 : decode cX3_brokenBy 10 = .ok (.aload_n 0, 1) := by decide +kernel
theorem dX3_brokenBy_11 : decode cX3_brokenBy 11 = .ok (.aload_n 1, 1) := by decide +kernel
theorem dX3_brokenBy_12 : decode cX3_brokenBy 12 = .ok (.getfield 123, 3) := by decide +kernel
theorem dX3_brokenBy_15 : decode cX3_brokenBy 15 = .ok (.aload_n 1, 1) := by decide +kernel
theorem dX3_brokenBy_16 : decode cX3_brokenBy 16 = .ok (.invokevirtual 194, 3) := by decide +kernel
theorem dX3_brokenBy_19 : decode cX3_brokenBy 19 = .ok (.invokevirtual 90, 3) := by decide +kernel
theorem dX3_brokenBy_22 : decode cX3_brokenBy 22 = .ok (.ireturn, 1) := by decide +kernel
theorem dX3_brokenWithin_0 : decode cX3_brokenWithin 0 = .ok (.iconst 0, 1) := by decide +kernel
theorem dX3_brokenWithin_1 : decode cX3_brokenWithin 1 = .ok (.istore_n 3, 1) := by decide +kernel
theorem dX3_brokenWithin_2 : decode cX3_brokenWithin 2 = .ok (.iload_n 1, 1) := by decide +kernel
theorem dX3_brokenWithin_3 : decode cX3_brokenWithin 3 = .ok (.istore 4, 2) := by decide +kernel
theorem dX3_brokenWithin_5 : decode cX3_brokenWithin 5 = .ok (.iload 4, 2) := by decide +kernel
theorem dX3_brokenWithin_7 : decode cX3_brokenWithin 7 = .ok (.iload_n 2, 1) := by decide +kernel
theorem dX3_brokenWithin_8 : decode cX3_brokenWithin 8 = .ok (.if_icmp .ge 43, 3) := by decide +kernel
theorem dX3_brokenWithin_11 : decode cX3_brokenWithin 11 = .ok (.aload_n 0, 1) := by decide +kernel
theorem dX3_brokenWithin_12 : decode cX3_brokenWithin 12 = .ok (.iload 4, 2) := by decide +kernel
theorem dX3_brokenWithin_14 : decode cX3_brokenWithin 14 = .ok (.invokevirtual 199, 3) := by decide +kernel
theorem dX3_brokenWithin_17 : decode cX3_brokenWithin 17 = .ok (.istore 5, 2) := by decide +kernel
theorem dX3_brokenWithin_19 : decode cX3_brokenWithin 19 = .ok (.iload 5, 2) := by decide +kernel
theorem dX3_brokenWithin_21 : decode cX3_brokenWithin 21 = .ok (.iconst 2, 1) := by decide +kernel
theorem dX3_brokenWithin_22 : decode cX3_brokenWithin 22 = .ok (.if_icmp .ne 5, 3) := by decide +kernel
theorem dX3_brokenWithin_25 : decode cX3_brokenWithin 25 = .ok (.iconst 2, 1) := by decide +kernel
theorem dX3_brokenWithin_26 : decode cX3_brokenWithin 26 = .ok (.ireturn, 1) := by decide +kernel
theorem dX3_brokenWithin_27 : decode cX3_brokenWithin 27 = .ok (.iload 5, 2) := by decide +kernel
theorem dX3_brokenWithin_29 : decode cX3_brokenWithin 29 = .ok (.ifCond .eq 16, 3) := by decide +kernel
theorem dX3_brokenWithin_32 : decode cX3_brokenWithin 32 = .ok (.iload_n 3, 1) := by decide +kernel
theorem dX3_brokenWithin_33 : decode cX3_brokenWithin 33 = .ok (.ifCond .eq 9, 3) := by decide +kernel
theorem dX3_brokenWithin_36 : decode cX3_brokenWithin 36 = .ok (.iload 5, 2) := by decide +kernel
theorem dX3_brokenWithin_38 : decode cX3_brokenWithin 38 = .ok (.iload_n 3, 1) := by decide +kernel
theorem dX3_brokenWithin_39 : decode cX3_brokenWithin 39 = .ok (.if_icmp .ge 6, 3) := by decide +kernel
theorem dX3_brokenWithin_42 : decode cX3_brokenWithin 42 = .ok (.iload 5, 2) := by decide +kernel
theorem dX3_brokenWithin_44 : decode cX3_brokenWithin 44 = .ok (.istore_n 3, 1) := by decide +kernel
theorem dX3_brokenWithin_45 : decode cX3_brokenWithin 45 = .ok (.iinc 4 1, 3) := by decide +kernel
theorem dX3_brokenWithin_48 : decode cX3_brokenWithin 48 = .ok (.goto (-43), 3) := by decide +kernel
theorem dX3_brokenWithin_51 : decode cX3_brokenWithin 51 = .ok (.iload_n 3, 1) := by decide +kernel
theorem dX3_brokenWithin_52 : decode cX3_brokenWithin 52 = .ok (.ireturn, 1) := by decide +kernel
theorem dX3_brokenAt_0 : decode cX3_brokenAt 0 = .ok (.aload_n 0, 1) := by decide +kernel
theorem dX3_brokenAt_1 : decode cX3_brokenAt 1 = .ok (.iload_n 1, 1) := by decide +kernel
theorem dX3_brokenAt_2 : decode cX3_brokenAt 2 = .ok (.invokevirtual 188, 3) := by decide +kernel
theorem dX3_brokenAt_5 : decode cX3_brokenAt 5 = .ok (.bipush 100, 2) := by decide +kernel
theorem dX3_brokenAt_7 : decode cX3_brokenAt 7 = .ok (.aload_n 0, 1) := by decide +kernel
theorem dX3_brokenAt_8 : decode cX3_brokenAt 8 = .ok (.iload_n 1, 1) := by decide +kernel
theorem dX3_brokenAt_9 : decode cX3_brokenAt 9 = .ok (.invokevirtual 246, 3) := by decide +kernel
theorem dX3_brokenAt_12 : decode cX3_brokenAt 12 = .ok (.imul, 1) := by decide +kernel
theorem dX3_brokenAt_13 : decode cX3_brokenAt 13 = .ok (.istore_n 2, 1) := by decide +kernel
theorem dX3_brokenAt_14 : decode cX3_brokenAt 14 = .ok (.aload_n 0, 1) := by decide +kernel
theorem dX3_brokenAt_15 : decode cX3_brokenAt 15 = .ok (.getfield 41, 3) := by decide +kernel
theorem dX3_brokenAt_18 : decode cX3_brokenAt 18 = .ok (.astore_n 3, 1) := by decide +kernel
theorem dX3_brokenAt_19 : decode cX3_brokenAt 19 = .ok (.aload_n 3, 1) := by decide +kernel
theorem dX3_brokenAt_20 : decode cX3_brokenAt 20 = .ok (.arraylength, 1) := by decide +kernel
theorem dX3_brokenAt_21 : decode cX3_brokenAt 21 = .ok (.istore 4, 2) := by decide +kernel
theorem dX3_brokenAt_23 : decode cX3_brokenAt 23 = .ok (.iconst 0, 1) := by decide +kernel
theorem dX3_brokenAt_24 : decode cX3_brokenAt 24 = .ok (.istore 5, 2) := by decide +kernel
theorem dX3_brokenAt_26 : decode cX3_brokenAt 26 = .ok (.iload 5, 2) := by decide +kernel
theorem dX3_brokenAt_28 : decode cX3_brokenAt 28 = .ok (.iload 4, 2) := by decide +kernel
theorem dX3_brokenAt_30 : decode cX3_brokenAt 30 = .ok (.if_icmp .ge 23, 3) := by decide +kernel
theorem dX3_brokenAt_33 : decode cX3_brokenAt 33 = .ok (.aload_n 3, 1) := by decide +kernel
theorem dX3_brokenAt_34 : decode cX3_brokenAt 34 = .ok (.iload 5, 2) := by decide +kernel
theorem dX3_brokenAt_36 : decode cX3_brokenAt 36 = .ok (.iaload, 1) := by decide +kernel
theorem dX3_brokenAt_37 : decode cX3_brokenAt 37 = .ok (.istore 6, 2) := by decide +kernel
theorem dX3_brokenAt_39 : decode cX3_brokenAt 39 = .ok (.iload 6, 2) := by decide +kernel
theorem dX3_brokenAt_41 : decode cX3_brokenAt 41 = .ok (.iload_n 2, 1) := by decide +kernel
theorem dX3_brokenAt_42 : decode cX3_brokenAt 42 = .ok (.if_icmp .le 5, 3) := by decide +kernel
theorem dX3_brokenAt_45 : decode cX3_brokenAt 45 = .ok (.iconst 2, 1) := by decide +kernel
theorem dX3_brokenAt_46 : decode cX3_brokenAt 46 = .ok (.ireturn, 1) := by decide +kernel
theorem dX3_brokenAt_47 : decode cX3_brokenAt 47 = .ok (.iinc 5 1, 3) := by decide +kernel
theorem dX3_brokenAt_50 : decode cX3_brokenAt 50 = .ok (.goto (-24), 3) := by decide +kernel
theorem dX3_brokenAt_53 : decode cX3_brokenAt 53 = .ok (.aload_n 0, 1) := by decide +kernel
theorem dX3_brokenAt_54 : decode cX3_brokenAt 54 = .ok (.getfield 249, 3) := by decide +kernel
theorem dX3_brokenAt_57 : decode cX3_brokenAt 57 = .ok (.ifCond .ne 13, 3) := by decide +kernel
theorem dX3_brokenAt_60 : decode cX3_brokenAt 60 = .ok (.aload_n 0, 1) := by decide +kernel
theorem dX3_brokenAt_61 : decode cX3_brokenAt 61 = .ok (.getfield 191, 3) := by decide +kernel
theorem dX3_brokenAt_64 : decode cX3_brokenAt 64 = .ok (.invokestatic 252, 3) := by decide +kernel
theorem dX3_brokenAt_67 : decode cX3_brokenAt 67 = .ok (.ifCond .eq 5, 3) := by decide +kernel
theorem dX3_brokenAt_70 : decode cX3_brokenAt 70 = .ok (.iconst 3, 1) := by decide +kernel
theorem dX3_brokenAt_71 : decode cX3_brokenAt 71 = .ok (.ireturn, 1) := by decide +kernel
theorem dX3_brokenAt_72 : decode cX3_brokenAt 72 = .ok (.iload_n 1, 1) := by decide +kernel
theorem dX3_brokenAt_73 : decode cX3_brokenAt 73 = .ok (.sipush 600, 3) := by decide +kernel
theorem dX3_brokenAt_76 : decode cX3_brokenAt 76 = .ok (.if_icmp .lt 8, 3) := by decide +kernel
theorem dX3_brokenAt_79 : decode cX3_brokenAt 79 = .ok (.bipush 10, 2) := by decide +kernel
theorem dX3_brokenAt_81 : decode cX3_brokenAt 81 = .ok (.goto 4, 3) := by decide +kernel
theorem dX3_brokenAt_84 : decode cX3_brokenAt 84 = .ok (.iconst 0, 1) := by decide +kernel
theorem dX3_brokenAt_85 : decode cX3_brokenAt 85 = .ok (.istore_n 3, 1) := by decide +kernel
theorem dX3_brokenAt_86 : decode cX3_brokenAt 86 = .ok (.iconst 0, 1) := by decide +kernel
theorem dX3_brokenAt_87 : decode cX3_brokenAt 87 = .ok (.istore 4, 2) := by decide +kernel
theorem dX3_brokenAt_89 : decode cX3_brokenAt 89 = .ok (.iload 4, 2) := by decide +kernel
theorem dX3_brokenAt_91 : decode cX3_brokenAt 91 = .ok (.iconst 3, 1) := by decide +kernel
theorem dX3_brokenAt_92 : decode cX3_brokenAt 92 = .ok (.if_icmp .ge 30, 3) := by decide +kernel
theorem dX3_brokenAt_95 : decode cX3_brokenAt 95 = .ok (.aload_n 0, 1) := by decide +kernel
theorem dX3_brokenAt_96 : decode cX3_brokenAt 96 = .ok (.getfield 44, 3) := by decide +kernel
theorem dX3_brokenAt_99 : decode cX3_brokenAt 99 = .ok (.iload 4, 2) := by decide +kernel
theorem dX3_brokenAt_101 : decode cX3_brokenAt 101 = .ok (.iaload, 1) := by decide +kernel
theorem dX3_brokenAt_102 : decode cX3_brokenAt 102 = .ok (.aload_n 0, 1) := by decide +kernel
theorem dX3_brokenAt_103 : decode cX3_brokenAt 103 = .ok (.getfield 16, 3) := by decide +kernel
theorem dX3_brokenAt_106 : decode cX3_brokenAt 106 = .ok (.iload 4, 2) := by decide +kernel
theorem dX3_brokenAt_108 : decode cX3_brokenAt 108 = .ok (.iaload, 1) := by decide +kernel
theorem dX3_brokenAt_109 : decode cX3_brokenAt 109 = .ok (.iload_n 3, 1) := by decide +kernel
theorem dX3_brokenAt_110 : decode cX3_brokenAt 110 = .ok (.isub, 1) := by decide +kernel
theorem dX3_brokenAt_111 : decode cX3_brokenAt 111 = .ok (.if_icmp .le 5, 3) := by decide +kernel
theorem dX3_brokenAt_114 : decode cX3_brokenAt 114 = .ok (.iconst 4, 1) := by decide +kernel
theorem dX3_brokenAt_115 : decode cX3_brokenAt 115 = .ok (.ireturn, 1) := by decide +kernel
theorem dX3_brokenAt_116 : decode cX3_brokenAt 116 = .ok (.iinc 4 1, 3) := by decide +kernel
theorem dX3_brokenAt_119 : decode cX3_brokenAt 119 = .ok (.goto (-30), 3) := by decide +kernel
theorem dX3_brokenAt_122 : decode cX3_brokenAt 122 = .ok (.iconst 0, 1) := by decide +kernel
theorem dX3_brokenAt_123 : decode cX3_brokenAt 123 = .ok (.ireturn, 1) := by decide +kernel
theorem dX3_setsAt_0 : decode cX3_setsAt 0 = .ok (.iconst 0, 1) := by decide +kernel
theorem dX3_setsAt_1 : decode cX3_setsAt 1 = .ok (.istore_n 2, 1) := by decide +kernel
theorem dX3_setsAt_2 : decode cX3_setsAt 2 = .ok (.iconst 0, 1) := by decide +kernel
theorem dX3_setsAt_3 : decode cX3_setsAt 3 = .ok (.istore_n 3, 1) := by decide +kernel
theorem dX3_setsAt_4 : decode cX3_setsAt 4 = .ok (.iload_n 3, 1) := by decide +kernel
theorem dX3_setsAt_5 : decode cX3_setsAt 5 = .ok (.aload_n 0, 1) := by decide +kernel
theorem dX3_setsAt_6 : decode cX3_setsAt 6 = .ok (.getfield 59, 3) := by decide +kernel
theorem dX3_setsAt_9 : decode cX3_setsAt 9 = .ok (.if_icmp .ge 22, 3) := by decide +kernel
theorem dX3_setsAt_12 : decode cX3_setsAt 12 = .ok (.aload_n 0, 1) := by decide +kernel
theorem dX3_setsAt_13 : decode cX3_setsAt 13 = .ok (.getfield 9, 3) := by decide +kernel
theorem dX3_setsAt_16 : decode cX3_setsAt 16 = .ok (.iload_n 3, 1) := by decide +kernel
theorem dX3_setsAt_17 : decode cX3_setsAt 17 = .ok (.iaload, 1) := by decide +kernel
theorem dX3_setsAt_18 : decode cX3_setsAt 18 = .ok (.iload_n 1, 1) := by decide +kernel
theorem dX3_setsAt_19 : decode cX3_setsAt 19 = .ok (.if_icmp .gt 6, 3) := by decide +kernel
theorem dX3_setsAt_22 : decode cX3_setsAt 22 = .ok (.iinc 2 1, 3) := by decide +kernel
theorem dX3_setsAt_25 : decode cX3_setsAt 25 = .ok (.iinc 3 1, 3) := by decide +kernel
theorem dX3_setsAt_28 : decode cX3_setsAt 28 = .ok (.goto (-24), 3) := by decide +kernel
theorem dX3_setsAt_31 : decode cX3_setsAt 31 = .ok (.iload_n 2, 1) := by decide +kernel
theorem dX3_setsAt_32 : decode cX3_setsAt 32 = .ok (.ireturn, 1) := by decide +kernel
theorem dX3_hasMiddleChannel_0 : decode cX3_hasMiddleChannel 0 = .ok (.iload_n 0, 1) := by decide +kernel
theorem dX3_hasMiddleChannel_1 : decode cX3_hasMiddleChannel 1 = .ok (.invokestatic 255, 3) := by decide +kernel
theorem dX3_hasMiddleChannel_4 : decode cX3_hasMiddleChannel 4 = .ok (.iconst 3, 1) := by decide +kernel
theorem dX3_hasMiddleChannel_5 : decode cX3_hasMiddleChannel 5 = .ok (.if_icmp .ge 5, 3) := by decide +kernel
theorem dX3_hasMiddleChannel_8 : decode cX3_hasMiddleChannel 8 = .ok (.iconst 0, 1) := by decide +kernel
theorem dX3_hasMiddleChannel_9 : decode cX3_hasMiddleChannel 9 = .ok (.ireturn, 1) := by decide +kernel
theorem dX3_hasMiddleChannel_10 : decode cX3_hasMiddleChannel 10 = .ok (.iconst 1, 1) := by decide +kernel
theorem dX3_hasMiddleChannel_11 : decode cX3_hasMiddleChannel 11 = .ok (.istore_n 1, 1) := by decide +kernel
theorem dX3_hasMiddleChannel_12 : decode cX3_hasMiddleChannel 12 = .ok (.iload_n 1, 1) := by decide +kernel
theorem dX3_hasMiddleChannel_13 : decode cX3_hasMiddleChannel 13 = .ok (.bipush 31, 2) := by decide +kernel
theorem dX3_hasMiddleChannel_15 : decode cX3_hasMiddleChannel 15 = .ok (.if_icmp .ge 27, 3) := by decide +kernel
theorem dX3_hasMiddleChannel_18 : decode cX3_hasMiddleChannel 18 = .ok (.iload_n 0, 1) := by decide +kernel
theorem dX3_hasMiddleChannel_19 : decode cX3_hasMiddleChannel 19 = .ok (.iload_n 1, 1) := by decide +kernel
theorem dX3_hasMiddleChannel_20 : decode cX3_hasMiddleChannel 20 = .ok (.invokestatic 260, 3) := by decide +kernel
theorem dX3_hasMiddleChannel_23 : decode cX3_hasMiddleChannel 23 = .ok (.ifCond .eq 13, 3) := by decide +kernel
theorem dX3_hasMiddleChannel_26 : decode cX3_hasMiddleChannel 26 = .ok (.iload_n 0, 1) := by decide +kernel
theorem dX3_hasMiddleChannel_27 : decode cX3_hasMiddleChannel 27 = .ok (.iload_n 1, 1) := by decide +kernel
theorem dX3_hasMiddleChannel_28 : decode cX3_hasMiddleChannel 28 = .ok (.invokestatic 263, 3) := by decide +kernel
theorem dX3_hasMiddleChannel_31 : decode cX3_hasMiddleChannel 31 = .ok (.ifCond .eq 5, 3) := by decide +kernel
theorem dX3_hasMiddleChannel_34 : decode cX3_hasMiddleChannel 34 = .ok (.iconst 1, 1) := by decide +kernel
theorem dX3_hasMiddleChannel_35 : decode cX3_hasMiddleChannel 35 = .ok (.ireturn, 1) := by decide +kernel
theorem dX3_hasMiddleChannel_36 : decode cX3_hasMiddleChannel 36 = .ok (.iinc 1 1, 3) := by decide +kernel
theorem dX3_hasMiddleChannel_39 : decode cX3_hasMiddleChannel 39 = .ok (.goto (-27), 3) := by decide +kernel
theorem dX3_hasMiddleChannel_42 : decode cX3_hasMiddleChannel 42 = .ok (.iconst 0, 1) := by decide +kernel
theorem dX3_hasMiddleChannel_43 : decode cX3_hasMiddleChannel 43 = .ok (.ireturn, 1) := by decide +kernel
theorem dX3_hasPairAround_0 : decode cX3_hasPairAround 0 = .ok (.iconst 1, 1) := by decide +kernel
theorem dX3_hasPairAround_1 : decode cX3_hasPairAround 1 = .ok (.istore_n 2, 1) := by decide +kernel
theorem dX3_hasPairAround_2 : decode cX3_hasPairAround 2 = .ok (.iload_n 2, 1) := by decide +kernel
theorem dX3_hasPairAround_3 : decode cX3_hasPairAround 3 = .ok (.iload_n 1, 1) := by decide +kernel
theorem dX3_hasPairAround_4 : decode cX3_hasPairAround 4 = .ok (.if_icmp .gt 39, 3) := by decide +kernel
theorem dX3_hasPairAround_7 : decode cX3_hasPairAround 7 = .ok (.iload_n 1, 1) := by decide +kernel
theorem dX3_hasPairAround_8 : decode cX3_hasPairAround 8 = .ok (.iload_n 2, 1) := by decide +kernel
theorem dX3_hasPairAround_9 : decode cX3_hasPairAround 9 = .ok (.iadd, 1) := by decide +kernel
theorem dX3_hasPairAround_10 : decode cX3_hasPairAround 10 = .ok (.bipush 32, 2) := by decide +kernel
theorem dX3_hasPairAround_12 : decode cX3_hasPairAround 12 = .ok (.if_icmp .ge 31, 3) := by decide +kernel
theorem dX3_hasPairAround_15 : decode cX3_hasPairAround 15 = .ok (.iload_n 0, 1) := by decide +kernel
theorem dX3_hasPairAround_16 : decode cX3_hasPairAround 16 = .ok (.iload_n 1, 1) := by decide +kernel
theorem dX3_hasPairAround_17 : decode cX3_hasPairAround 17 = .ok (.iload_n 2, 1) := by decide +kernel
theorem dX3_hasPairAround_18 : decode cX3_hasPairAround 18 = .ok (.isub, 1) := by decide +kernel
theorem dX3_hasPairAround_19 : decode cX3_hasPairAround 19 = .ok (.invokestatic 260, 3) := by decide +kernel
theorem dX3_hasPairAround_22 : decode cX3_hasPairAround 22 = .ok (.ifCond .eq 15, 3) := by decide +kernel
theorem dX3_hasPairAround_25 : decode cX3_hasPairAround 25 = .ok (.iload_n 0, 1) := by decide +kernel
theorem dX3_hasPairAround_26 : decode cX3_hasPairAround 26 = .ok (.iload_n 1, 1) := by decide +kernel
theorem dX3_hasPairAround_27 : decode cX3_hasPairAround 27 = .ok (.iload_n 2, 1) := by decide +kernel
theorem dX3_hasPairAround_28 : decode cX3_hasPairAround 28 = .ok (.iadd, 1) := by decide +kernel
theorem dX3_hasPairAround_29 : decode cX3_hasPairAround 29 = .ok (.invokestatic 260, 3) := by decide +kernel
theorem dX3_hasPairAround_32 : decode cX3_hasPairAround 32 = .ok (.ifCond .eq 5, 3) := by decide +kernel
theorem dX3_hasPairAround_35 : decode cX3_hasPairAround 35 = .ok (.iconst 1, 1) := by decide +kernel
theorem dX3_hasPairAround_36 : decode cX3_hasPairAround 36 = .ok (.ireturn, 1) := by decide +kernel
theorem dX3_hasPairAround_37 : decode cX3_hasPairAround 37 = .ok (.iinc 2 1, 3) := by decide +kernel
theorem dX3_hasPairAround_40 : decode cX3_hasPairAround 40 = .ok (.goto (-38), 3) := by decide +kernel
theorem dX3_hasPairAround_43 : decode cX3_hasPairAround 43 = .ok (.iconst 0, 1) := by decide +kernel
theorem dX3_hasPairAround_44 : decode cX3_hasPairAround 44 = .ok (.ireturn, 1) := by decide +kernel
theorem dX3_hasChannel_0 : decode cX3_hasChannel 0 = .ok (.iload_n 1, 1) := by decide +kernel
theorem dX3_hasChannel_1 : decode cX3_hasChannel 1 = .ok (.ifCond .lt 21, 3) := by decide +kernel
theorem dX3_hasChannel_4 : decode cX3_hasChannel 4 = .ok (.iload_n 1, 1) := by decide +kernel
theorem dX3_hasChannel_5 : decode cX3_hasChannel 5 = .ok (.bipush 32, 2) := by decide +kernel
theorem dX3_hasChannel_7 : decode cX3_hasChannel 7 = .ok (.if_icmp .ge 15, 3) := by decide +kernel
theorem dX3_hasChannel_10 : decode cX3_hasChannel 10 = .ok (.iload_n 0, 1) := by decide +kernel
theorem dX3_hasChannel_11 : decode cX3_hasChannel 11 = .ok (.iload_n 1, 1) := by decide +kernel
theorem dX3_hasChannel_12 : decode cX3_hasChannel 12 = .ok (.iushr, 1) := by decide +kernel
theorem dX3_hasChannel_13 : decode cX3_hasChannel 13 = .ok (.iconst 1, 1) := by decide +kernel
theorem dX3_hasChannel_14 : decode cX3_hasChannel 14 = .ok (.iand, 1) := by decide +kernel
theorem dX3_hasChannel_15 : decode cX3_hasChannel 15 = .ok (.ifCond .eq 7, 3) := by decide +kernel
theorem dX3_hasChannel_18 : decode cX3_hasChannel 18 = .ok (.iconst 1, 1) := by decide +kernel
theorem dX3_hasChannel_19 : decode cX3_hasChannel 19 = .ok (.goto 4, 3) := by decide +kernel
theorem dX3_hasChannel_22 : decode cX3_hasChannel 22 = .ok (.iconst 0, 1) := by decide +kernel
theorem dX3_hasChannel_23 : decode cX3_hasChannel 23 = .ok (.ireturn, 1) := by decide +kernel
theorem dX3_lookAt_0 : decode cX3_lookAt 0 = .ok (.aload_n 0, 1) := by decide +kernel
theorem dX3_lookAt_1 : decode cX3_lookAt 1 = .ok (.getfield 41, 3) := by decide +kernel
theorem dX3_lookAt_4 : decode cX3_lookAt 4 = .ok (.iconst 0, 1) := by decide +kernel
theorem dX3_lookAt_5 : decode cX3_lookAt 5 = .ok (.invokestatic 47, 3) := by decide +kernel
theorem dX3_lookAt_8 : decode cX3_lookAt 8 = .ok (.aload_n 0, 1) := by decide +kernel
theorem dX3_lookAt_9 : decode cX3_lookAt 9 = .ok (.getfield 44, 3) := by decide +kernel
theorem dX3_lookAt_12 : decode cX3_lookAt 12 = .ok (.iconst 0, 1) := by decide +kernel
theorem dX3_lookAt_13 : decode cX3_lookAt 13 = .ok (.invokestatic 47, 3) := by decide +kernel
theorem dX3_lookAt_16 : decode cX3_lookAt 16 = .ok (.aload_n 0, 1) := by decide +kernel
theorem dX3_lookAt_17 : decode cX3_lookAt 17 = .ok (.iconst 0, 1) := by decide +kernel
theorem dX3_lookAt_18 : decode cX3_lookAt 18 = .ok (.putfield 191, 3) := by decide +kernel
theorem dX3_lookAt_21 : decode cX3_lookAt 21 = .ok (.aload_n 0, 1) := by decide +kernel
theorem dX3_lookAt_22 : decode cX3_lookAt 22 = .ok (.iconst 0, 1) := by decide +kernel
theorem dX3_lookAt_23 : decode cX3_lookAt 23 = .ok (.putfield 249, 3) := by decide +kernel
theorem dX3_lookAt_26 : decode cX3_lookAt 26 = .ok (.aload_n 0, 1) := by decide +kernel
theorem dX3_lookAt_27 : decode cX3_lookAt 27 = .ok (.getfield 19, 3) := by decide +kernel
theorem dX3_lookAt_30 : decode cX3_lookAt 30 = .ok (.iload_n 1, 1) := by decide +kernel
theorem dX3_lookAt_31 : decode cX3_lookAt 31 = .ok (.bipush 60, 2) := by decide +kernel
theorem dX3_lookAt_33 : decode cX3_lookAt 33 = .ok (.idiv, 1) := by decide +kernel
theorem dX3_lookAt_34 : decode cX3_lookAt 34 = .ok (.iaload, 1) := by decide +kernel
theorem dX3_lookAt_35 : decode cX3_lookAt 35 = .ok (.istore_n 2, 1) := by decide +kernel
theorem dX3_lookAt_36 : decode cX3_lookAt 36 = .ok (.aload_n 0, 1) := by decide +kernel
theorem dX3_lookAt_37 : decode cX3_lookAt 37 = .ok (.getfield 24, 3) := by decide +kernel
theorem dX3_lookAt_40 : decode cX3_lookAt 40 = .ok (.astore_n 3, 1) := by decide +kernel
theorem dX3_lookAt_41 : decode cX3_lookAt 41 = .ok (.aload_n 3, 1) := by decide +kernel
theorem dX3_lookAt_42 : decode cX3_lookAt 42 = .ok (.arraylength, 1) := by decide +kernel
theorem dX3_lookAt_43 : decode cX3_lookAt 43 = .ok (.istore 4, 2) := by decide +kernel
theorem dX3_lookAt_45 : decode cX3_lookAt 45 = .ok (.iconst 0, 1) := by decide +kernel
theorem dX3_lookAt_46 : decode cX3_lookAt 46 = .ok (.istore 5, 2) := by decide +kernel
theorem dX3_lookAt_48 : decode cX3_lookAt 48 = .ok (.iload 5, 2) := by decide +kernel
theorem dX3_lookAt_50 : decode cX3_lookAt 50 = .ok (.iload 4, 2) := by decide +kernel
theorem dX3_lookAt_52 : decode cX3_lookAt 52 = .ok (.if_icmp .ge 31, 3) := by decide +kernel
theorem dX3_lookAt_55 : decode cX3_lookAt 55 = .ok (.aload_n 3, 1) := by decide +kernel
theorem dX3_lookAt_56 : decode cX3_lookAt 56 = .ok (.iload 5, 2) := by decide +kernel
theorem dX3_lookAt_58 : decode cX3_lookAt 58 = .ok (.aaload, 1) := by decide +kernel
theorem dX3_lookAt_59 : decode cX3_lookAt 59 = .ok (.astore 6, 2) := by decide +kernel
theorem dX3_lookAt_61 : decode cX3_lookAt 61 = .ok (.aload 6, 2) := by decide +kernel
theorem dX3_lookAt_63 : decode cX3_lookAt 63 = .ok (.iload_n 1, 1) := by decide +kernel
theorem dX3_lookAt_64 : decode cX3_lookAt 64 = .ok (.invokevirtual 236, 3) := by decide +kernel
theorem dX3_lookAt_67 : decode cX3_lookAt 67 = .ok (.ifCond .eq 10, 3) := by decide +kernel
theorem dX3_lookAt_70 : decode cX3_lookAt 70 = .ok (.aload_n 0, 1) := by decide +kernel
theorem dX3_lookAt_71 : decode cX3_lookAt 71 = .ok (.aload 6, 2) := by decide +kernel
theorem dX3_lookAt_73 : decode cX3_lookAt 73 = .ok (.iload_n 2, 1) := by decide +kernel
theorem dX3_lookAt_74 : decode cX3_lookAt 74 = .ok (.invokevirtual 266, 3) := by decide +kernel
theorem dX3_lookAt_77 : decode cX3_lookAt 77 = .ok (.iinc 5 1, 3) := by decide +kernel
theorem dX3_lookAt_80 : decode cX3_lookAt 80 = .ok (.goto (-32), 3) := by decide +kernel
theorem dX3_lookAt_83 : decode cX3_lookAt 83 = .ok (.return_, 1) := by decide +kernel
theorem dX3_addToLook_0 : decode cX3_addToLook 0 = .ok (.aload_n 0, 1) := by decide +kernel
theorem dX3_addToLook_1 : decode cX3_addToLook 1 = .ok (.getfield 41, 3) := by decide +kernel
theorem dX3_addToLook_4 : decode cX3_addToLook 4 = .ok (.aload_n 1, 1) := by decide +kernel
theorem dX3_addToLook_5 : decode cX3_addToLook 5 = .ok (.getfield 222, 3) := by decide +kernel
theorem dX3_addToLook_8 : decode cX3_addToLook 8 = .ok (.dup2, 1) := by decide +kernel
theorem dX3_addToLook_9 : decode cX3_addToLook 9 = .ok (.iaload, 1) := by decide +kernel
theorem dX3_addToLook_10 : decode cX3_addToLook 10 = .ok (.aload_n 1, 1) := by decide +kernel
theorem dX3_addToLook_11 : decode cX3_addToLook 11 = .ok (.getfield 149, 3) := by decide +kernel
theorem dX3_addToLook_14 : decode cX3_addToLook 14 = .ok (.iadd, 1) := by decide +kernel
theorem dX3_addToLook_15 : decode cX3_addToLook 15 = .ok (.iastore, 1) := by decide +kernel
theorem dX3_addToLook_16 : decode cX3_addToLook 16 = .ok (.iconst 0, 1) := by decide +kernel
theorem dX3_addToLook_17 : decode cX3_addToLook 17 = .ok (.istore_n 3, 1) := by decide +kernel
theorem dX3_addToLook_18 : decode cX3_addToLook 18 = .ok (.iload_n 3, 1) := by decide +kernel
theorem dX3_addToLook_19 : decode cX3_addToLook 19 = .ok (.iconst 3, 1) := by decide +kernel
theorem dX3_addToLook_20 : decode cX3_addToLook 20 = .ok (.if_icmp .ge 48, 3) := by decide +kernel
theorem dX3_addToLook_23 : decode cX3_addToLook 23 = .ok (.bipush 10, 2) := by decide +kernel
theorem dX3_addToLook_25 : decode cX3_addToLook 25 = .ok (.bipush 10, 2) := by decide +kernel
theorem dX3_addToLook_27 : decode cX3_addToLook 27 = .ok (.aload_n 1, 1) := by decide +kernel
theorem dX3_addToLook_28 : decode cX3_addToLook 28 = .ok (.getfield 219, 3) := by decide +kernel
theorem dX3_addToLook_31 : decode cX3_addToLook 31 = .ok (.iload_n 3, 1) := by decide +kernel
theorem dX3_addToLook_32 : decode cX3_addToLook 32 = .ok (.isub, 1) := by decide +kernel
theorem dX3_addToLook_33 : decode cX3_addToLook 33 = .ok (.invokestatic 70, 3) := by decide +kernel
theorem dX3_addToLook_36 : decode cX3_addToLook 36 = .ok (.imul, 1) := by decide +kernel
theorem dX3_addToLook_37 : decode cX3_addToLook 37 = .ok (.iadd, 1) := by decide +kernel
theorem dX3_addToLook_38 : decode cX3_addToLook 38 = .ok (.iload_n 2, 1) := by decide +kernel
theorem dX3_addToLook_39 : decode cX3_addToLook 39 = .ok (.iadd, 1) := by decide +kernel
theorem dX3_addToLook_40 : decode cX3_addToLook 40 = .ok (.istore 4, 2) := by decide +kernel
theorem dX3_addToLook_42 : decode cX3_addToLook 42 = .ok (.aload_n 0, 1) := by decide +kernel
theorem dX3_addToLook_43 : decode cX3_addToLook 43 = .ok (.getfield 44, 3) := by decide +kernel
theorem dX3_addToLook_46 : decode cX3_addToLook 46 = .ok (.iload_n 3, 1) := by decide +kernel
theorem dX3_addToLook_47 : decode cX3_addToLook 47 = .ok (.dup2, 1) := by decide +kernel
theorem dX3_addToLook_48 : decode cX3_addToLook 48 = .ok (.iaload, 1) := by decide +kernel
theorem dX3_addToLook_49 : decode cX3_addToLook 49 = .ok (.iconst 0, 1) := by decide +kernel
theorem dX3_addToLook_50 : decode cX3_addToLook 50 = .ok (.aload_n 1, 1) := by decide +kernel
theorem dX3_addToLook_51 : decode cX3_addToLook 51 = .ok (.getfield 152, 3) := by decide +kernel
theorem dX3_addToLook_54 : decode cX3_addToLook 54 = .ok (.iload 4, 2) := by decide +kernel
theorem dX3_addToLook_56 : decode cX3_addToLook 56 = .ok (.isub, 1) := by decide +kernel
theorem dX3_addToLook_57 : decode cX3_addToLook 57 = .ok (.invokestatic 270, 3) := by decide +kernel
theorem dX3_addToLook_60 : decode cX3_addToLook 60 = .ok (.iadd, 1) := by decide +kernel
theorem dX3_addToLook_61 : decode cX3_addToLook 61 = .ok (.iastore, 1) := by decide +kernel
theorem dX3_addToLook_62 : decode cX3_addToLook 62 = .ok (.iinc 3 1, 3) := by decide +kernel
theorem dX3_addToLook_65 : decode cX3_addToLook 65 = .ok (.goto (-47), 3) := by decide +kernel
theorem dX3_addToLook_68 : decode cX3_addToLook 68 = .ok (.aload_n 1, 1) := by decide +kernel
theorem dX3_addToLook_69 : decode cX3_addToLook 69 = .ok (.getfield 155, 3) := by decide +kernel
theorem dX3_addToLook_72 : decode cX3_addToLook 72 = .ok (.istore_n 3, 1) := by decide +kernel
theorem dX3_addToLook_73 : decode cX3_addToLook 73 = .ok (.iload_n 3, 1) := by decide +kernel
theorem dX3_addToLook_74 : decode cX3_addToLook 74 = .ok (.iconst (-1), 1) := by decide +kernel
theorem dX3_addToLook_75 : decode cX3_addToLook 75 = .ok (.if_icmp .eq 68, 3) := by decide +kernel
theorem dX3_addToLook_78 : decode cX3_addToLook 78 = .ok (.aload_n 0, 1) := by decide +kernel
theorem dX3_addToLook_79 : decode cX3_addToLook 79 = .ok (.aload_n 0, 1) := by decide +kernel
theorem dX3_addToLook_80 : decode cX3_addToLook 80 = .ok (.getfield 249, 3) := by decide +kernel
theorem dX3_addToLook_83 : decode cX3_addToLook 83 = .ok (.ifCond .ne 40, 3) := by decide +kernel
theorem dX3_addToLook_86 : decode cX3_addToLook 86 = .ok (.aload_n 0, 1) := by decide +kernel
theorem dX3_addToLook_87 : decode cX3_addToLook 87 = .ok (.getfield 191, 3) := by decide +kernel
theorem dX3_addToLook_90 : decode cX3_addToLook 90 = .ok (.iload_n 3, 1) := by decide +kernel
theorem dX3_addToLook_91 : decode cX3_addToLook 91 = .ok (.iconst 1, 1) := by decide +kernel
theorem dX3_addToLook_92 : decode cX3_addToLook 92 = .ok (.isub, 1) := by decide +kernel
theorem dX3_addToLook_93 : decode cX3_addToLook 93 = .ok (.invokestatic 260, 3) := by decide +kernel
theorem dX3_addToLook_96 : decode cX3_addToLook 96 = .ok (.ifCond .ne 27, 3) := by decide +kernel
theorem dX3_addToLook_99 : decode cX3_addToLook 99 = .ok (.aload_n 0, 1) := by decide +kernel
theorem dX3_addToLook_100 : decode cX3_addToLook 100 = .ok (.getfield 191, 3) := by decide +kernel
theorem dX3_addToLook_103 : decode cX3_addToLook 103 = .ok (.iload_n 3, 1) := by decide +kernel
theorem dX3_addToLook_104 : decode cX3_addToLook 104 = .ok (.invokestatic 260, 3) := by decide +kernel
theorem dX3_addToLook_107 : decode cX3_addToLook 107 = .ok (.ifCond .ne 16, 3) := by decide +kernel
theorem dX3_addToLook_110 : decode cX3_addToLook 110 = .ok (.aload_n 0, 1) := by decide +kernel
theorem dX3_addToLook_111 : decode cX3_addToLook 111 = .ok (.getfield 191, 3) := by decide +kernel
theorem dX3_addToLook_114 : decode cX3_addToLook 114 = .ok (.iload_n 3, 1) := by decide +kernel
theorem dX3_addToLook_115 : decode cX3_addToLook 115 = .ok (.iconst 1, 1) := by decide +kernel
theorem dX3_addToLook_116 : decode cX3_addToLook 116 = .ok (.iadd, 1) := by decide +kernel
theorem dX3_addToLook_117 : decode cX3_addToLook 117 = .ok (.invokestatic 260, 3) := by decide +kernel
theorem dX3_addToLook_120 : decode cX3_addToLook 120 = .ok (.ifCond .eq 7, 3) := by decide +kernel
theorem dX3_addToLook_123 : decode cX3_addToLook 123 = .ok (.iconst 1, 1) := by decide +kernel
theorem dX3_addToLook_124 : decode cX3_addToLook 124 = .ok (.goto 4, 3) := by decide +kernel
theorem dX3_addToLook_127 : decode cX3_addToLook 127 = .ok (.iconst 0, 1) := by decide +kernel
theorem dX3_addToLook_128 : decode cX3_addToLook 128 = .ok (.putfield 249, 3) := by decide +kernel
theorem dX3_addToLook_131 : decode cX3_addToLook 131 = .ok (.aload_n 0, 1) := by decide +kernel
theorem dX3_addToLook_132 : decode cX3_addToLook 132 = .ok (.dup, 1) := by decide +kernel
theorem dX3_addToLook_133 : decode cX3_addToLook 133 = .ok (.getfield 191, 3) := by decide +kernel
theorem dX3_addToLook_136 : decode cX3_addToLook 136 = .ok (.iconst 1, 1) := by decide +kernel
theorem dX3_addToLook_137 : decode cX3_addToLook 137 = .ok (.iload_n 3, 1) := by decide +kernel
theorem dX3_addToLook_138 : decode cX3_addToLook 138 = .ok (.ishl, 1) := by decide +kernel
theorem dX3_addToLook_139 : decode cX3_addToLook 139 = .ok (.ior, 1) := by decide +kernel
theorem dX3_addToLook_140 : decode cX3_addToLook 140 = .ok (.putfield 191, 3) := by decide +kernel
theorem dX3_addToLook_143 : decode cX3_addToLook 143 = .ok (.return_, 1) := by decide +kernel
theorem dX3_firstFineStart_0 : decode cX3_firstFineStart 0 = .ok (.iconst 0, 1) := by decide +kernel
theorem dX3_firstFineStart_1 : decode cX3_firstFineStart 1 = .ok (.istore_n 3, 1) := by decide +kernel
theorem dX3_firstFineStart_2 : decode cX3_firstFineStart 2 = .ok (.iload_n 2, 1) := by decide +kernel
theorem dX3_firstFineStart_3 : decode cX3_firstFineStart 3 = .ok (.istore 4, 2) := by decide +kernel
theorem dX3_firstFineStart_5 : decode cX3_firstFineStart 5 = .ok (.iload 4, 2) := by decide +kernel
theorem dX3_firstFineStart_7 : decode cX3_firstFineStart 7 = .ok (.sipush 1000, 3) := by decide +kernel
theorem dX3_firstFineStart_10 : decode cX3_firstFineStart 10 = .ok (.if_icmp .ge 66, 3) := by decide +kernel
theorem dX3_firstFineStart_13 : decode cX3_firstFineStart 13 = .ok (.aload_n 1, 1) := by decide +kernel
theorem dX3_firstFineStart_14 : decode cX3_firstFineStart 14 = .ok (.iload 4, 2) := by decide +kernel
theorem dX3_firstFineStart_16 : decode cX3_firstFineStart 16 = .ok (.putfield 123, 3) := by decide +kernel
theorem dX3_firstFineStart_19 : decode cX3_firstFineStart 19 = .ok (.aload_n 0, 1) := by decide +kernel
theorem dX3_firstFineStart_20 : decode cX3_firstFineStart 20 = .ok (.iload 4, 2) := by decide +kernel
theorem dX3_firstFineStart_22 : decode cX3_firstFineStart 22 = .ok (.invokevirtual 199, 3) := by decide +kernel
theorem dX3_firstFineStart_25 : decode cX3_firstFineStart 25 = .ok (.ifCond .ne 9, 3) := by decide +kernel
theorem dX3_firstFineStart_28 : decode cX3_firstFineStart 28 = .ok (.iload_n 3, 1) := by decide +kernel
theorem dX3_firstFineStart_29 : decode cX3_firstFineStart 29 = .ok (.iconst 1, 1) := by decide +kernel
theorem dX3_firstFineStart_30 : decode cX3_firstFineStart 30 = .ok (.iadd, 1) := by decide +kernel
theorem dX3_firstFineStart_31 : decode cX3_firstFineStart 31 = .ok (.goto 4, 3) := by decide +kernel
theorem dX3_firstFineStart_34 : decode cX3_firstFineStart 34 = .ok (.iconst 0, 1) := by decide +kernel
theorem dX3_firstFineStart_35 : decode cX3_firstFineStart 35 = .ok (.istore_n 3, 1) := by decide +kernel
theorem dX3_firstFineStart_36 : decode cX3_firstFineStart 36 = .ok (.iload_n 3, 1) := by decide +kernel
theorem dX3_firstFineStart_37 : decode cX3_firstFineStart 37 = .ok (.aload_n 1, 1) := by decide +kernel
theorem dX3_firstFineStart_38 : decode cX3_firstFineStart 38 = .ok (.getfield 220, 3) := by decide +kernel
theorem dX3_firstFineStart_41 : decode cX3_firstFineStart 41 = .ok (.if_icmp .lt 29, 3) := by decide +kernel
theorem dX3_firstFineStart_44 : decode cX3_firstFineStart 44 = .ok (.aload_n 1, 1) := by decide +kernel
theorem dX3_firstFineStart_45 : decode cX3_firstFineStart 45 = .ok (.iload 4, 2) := by decide +kernel
theorem dX3_firstFineStart_47 : decode cX3_firstFineStart 47 = .ok (.aload_n 1, 1) := by decide +kernel
theorem dX3_firstFineStart_48 : decode cX3_firstFineStart 48 = .ok (.getfield 220, 3) := by decide +kernel
theorem dX3_firstFineStart_51 : decode cX3_firstFineStart 51 = .ok (.isub, 1) := by decide +kernel
theorem dX3_firstFineStart_52 : decode cX3_firstFineStart 52 = .ok (.iconst 1, 1) := by decide +kernel
theorem dX3_firstFineStart_53 : decode cX3_firstFineStart 53 = .ok (.iadd, 1) := by decide +kernel
theorem dX3_firstFineStart_54 : decode cX3_firstFineStart 54 = .ok (.putfield 123, 3) := by decide +kernel
theorem dX3_firstFineStart_57 : decode cX3_firstFineStart 57 = .ok (.aload_n 0, 1) := by decide +kernel
theorem dX3_firstFineStart_58 : decode cX3_firstFineStart 58 = .ok (.aload_n 1, 1) := by decide +kernel
theorem dX3_firstFineStart_59 : decode cX3_firstFineStart 59 = .ok (.invokevirtual 225, 3) := by decide +kernel
theorem dX3_firstFineStart_62 : decode cX3_firstFineStart 62 = .ok (.ifCond .eq 8, 3) := by decide +kernel
theorem dX3_firstFineStart_65 : decode cX3_firstFineStart 65 = .ok (.aload_n 1, 1) := by decide +kernel
theorem dX3_firstFineStart_66 : decode cX3_firstFineStart 66 = .ok (.getfield 123, 3) := by decide +kernel
theorem dX3_firstFineStart_69 : decode cX3_firstFineStart 69 = .ok (.ireturn, 1) := by decide +kernel
theorem dX3_firstFineStart_70 : decode cX3_firstFineStart 70 = .ok (.iinc 4 1, 3) := by decide +kernel
theorem dX3_firstFineStart_73 : decode cX3_firstFineStart 73 = .ok (.goto (-68), 3) := by decide +kernel
theorem dX3_firstFineStart_76 : decode cX3_firstFineStart 76 = .ok (.iconst (-1), 1) := by decide +kernel
theorem dX3_firstFineStart_77 : decode cX3_firstFineStart 77 = .ok (.ireturn, 1) := by decide +kernel
theorem dX3_callOff_0 : decode cX3_callOff 0 = .ok (.aload_n 0, 1) := by decide +kernel
theorem dX3_callOff_1 : decode cX3_callOff 1 = .ok (.getfield 24, 3) := by decide +kernel
theorem dX3_callOff_4 : decode cX3_callOff 4 = .ok (.astore_n 2, 1) := by decide +kernel
theorem dX3_callOff_5 : decode cX3_callOff 5 = .ok (.aload_n 2, 1) := by decide +kernel
theorem dX3_callOff_6 : decode cX3_callOff 6 = .ok (.arraylength, 1) := by decide +kernel
theorem dX3_callOff_7 : decode cX3_callOff 7 = .ok (.istore_n 3, 1) := by decide +kernel
theorem dX3_callOff_8 : decode cX3_callOff 8 = .ok (.iconst 0, 1) := by decide +kernel
theorem dX3_callOff_9 : decode cX3_callOff 9 = .ok (.istore 4, 2) := by decide +kernel
theorem dX3_callOff_11 : decode cX3_callOff 11 = .ok (.iload 4, 2) := by decide +kernel
theorem dX3_callOff_13 : decode cX3_callOff 13 = .ok (.iload_n 3, 1) := by decide +kernel
theorem dX3_callOff_14 : decode cX3_callOff 14 = .ok (.if_icmp .ge 44, 3) := by decide +kernel
theorem dX3_callOff_17 : decode cX3_callOff 17 = .ok (.aload_n 2, 1) := by decide +kernel
theorem dX3_callOff_18 : decode cX3_callOff 18 = .ok (.iload 4, 2) := by decide +kernel
theorem dX3_callOff_20 : decode cX3_callOff 20 = .ok (.aaload, 1) := by decide +kernel
theorem dX3_callOff_21 : decode cX3_callOff 21 = .ok (.astore 5, 2) := by decide +kernel
theorem dX3_callOff_23 : decode cX3_callOff 23 = .ok (.aload 5, 2) := by decide +kernel
theorem dX3_callOff_25 : decode cX3_callOff 25 = .ok (.getfield 110, 3) := by decide +kernel
theorem dX3_callOff_28 : decode cX3_callOff 28 = .ok (.ifCond .eq 24, 3) := by decide +kernel
theorem dX3_callOff_31 : decode cX3_callOff 31 = .ok (.aload_n 1, 1) := by decide +kernel
theorem dX3_callOff_32 : decode cX3_callOff 32 = .ok (.aload 5, 2) := by decide +kernel
theorem dX3_callOff_34 : decode cX3_callOff 34 = .ok (.invokevirtual 229, 3) := by decide +kernel
theorem dX3_callOff_37 : decode cX3_callOff 37 = .ok (.ifCond .eq 15, 3) := by decide +kernel
theorem dX3_callOff_40 : decode cX3_callOff 40 = .ok (.aload 5, 2) := by decide +kernel
theorem dX3_callOff_42 : decode cX3_callOff 42 = .ok (.iconst 0, 1) := by decide +kernel
theorem dX3_callOff_43 : decode cX3_callOff 43 = .ok (.putfield 110, 3) := by decide +kernel
theorem dX3_callOff_46 : decode cX3_callOff 46 = .ok (.aload 5, 2) := by decide +kernel
theorem dX3_callOff_48 : decode cX3_callOff 48 = .ok (.iconst 1, 1) := by decide +kernel
theorem dX3_callOff_49 : decode cX3_callOff 49 = .ok (.putfield 273, 3) := by decide +kernel
theorem dX3_callOff_52 : decode cX3_callOff 52 = .ok (.iinc 4 1, 3) := by decide +kernel
theorem dX3_callOff_55 : decode cX3_callOff 55 = .ok (.goto (-44), 3) := by decide +kernel
theorem dX3_callOff_58 : decode cX3_callOff 58 = .ok (.return_, 1) := by decide +kernel
theorem dX3_replan_0 : decode cX3_replan 0 = .ok (.iconst 0, 1) := by decide +kernel
theorem dX3_replan_1 : decode cX3_replan 1 = .ok (.istore_n 2, 1) := by decide +kernel
theorem dX3_replan_2 : decode cX3_replan 2 = .ok (.iconst 0, 1) := by decide +kernel
theorem dX3_replan_3 : decode cX3_replan 3 = .ok (.istore_n 3, 1) := by decide +kernel
theorem dX3_replan_4 : decode cX3_replan 4 = .ok (.iload_n 3, 1) := by decide +kernel
theorem dX3_replan_5 : decode cX3_replan 5 = .ok (.bipush 16, 2) := by decide +kernel
theorem dX3_replan_7 : decode cX3_replan 7 = .ok (.if_icmp .ge 55, 3) := by decide +kernel
theorem dX3_replan_10 : decode cX3_replan 10 = .ok (.aload_n 0, 1) := by decide +kernel
theorem dX3_replan_11 : decode cX3_replan 11 = .ok (.invokevirtual 276, 3) := by decide +kernel
theorem dX3_replan_14 : decode cX3_replan 14 = .ok (.astore 4, 2) := by decide +kernel
theorem dX3_replan_16 : decode cX3_replan 16 = .ok (.aload 4, 2) := by decide +kernel
theorem dX3_replan_18 : decode cX3_replan 18 = .ok (.ifnonnull 6, 3) := by decide +kernel
theorem dX3_replan_21 : decode cX3_replan 21 = .ok (.goto 41, 3) := by decide +kernel
theorem dX3_replan_24 : decode cX3_replan 24 = .ok (.aload 4, 2) := by decide +kernel
theorem dX3_replan_26 : decode cX3_replan 26 = .ok (.iconst 0, 1) := by decide +kernel
theorem dX3_replan_27 : decode cX3_replan 27 = .ok (.putfield 273, 3) := by decide +kernel
theorem dX3_replan_30 : decode cX3_replan 30 = .ok (.aload 4, 2) := by decide +kernel
theorem dX3_replan_32 : decode cX3_replan 32 = .ok (.iconst 1, 1) := by decide +kernel
theorem dX3_replan_33 : decode cX3_replan 33 = .ok (.putfield 110, 3) := by decide +kernel
theorem dX3_replan_36 : decode cX3_replan 36 = .ok (.aload_n 0, 1) := by decide +kernel
theorem dX3_replan_37 : decode cX3_replan 37 = .ok (.aload 4, 2) := by decide +kernel
theorem dX3_replan_39 : decode cX3_replan 39 = .ok (.iload_n 1, 1) := by decide +kernel
theorem dX3_replan_40 : decode cX3_replan 40 = .ok (.invokevirtual 126, 3) := by decide +kernel
theorem dX3_replan_43 : decode cX3_replan 43 = .ok (.iconst (-1), 1) := by decide +kernel
theorem dX3_replan_44 : decode cX3_replan 44 = .ok (.if_icmp .ne 12, 3) := by decide +kernel
theorem dX3_replan_47 : decode cX3_replan 47 = .ok (.aload 4, 2) := by decide +kernel
theorem dX3_replan_49 : decode cX3_replan 49 = .ok (.iconst 0, 1) := by decide +kernel
theorem dX3_replan_50 : decode cX3_replan 50 = .ok (.putfield 110, 3) := by decide +kernel
theorem dX3_replan_53 : decode cX3_replan 53 = .ok (.iinc 2 1, 3) := by decide +kernel
theorem dX3_replan_56 : decode cX3_replan 56 = .ok (.iinc 3 1, 3) := by decide +kernel
theorem dX3_replan_59 : decode cX3_replan 59 = .ok (.goto (-55), 3) := by decide +kernel
theorem dX3_replan_62 : decode cX3_replan 62 = .ok (.iload_n 2, 1) := by decide +kernel
theorem dX3_replan_63 : decode cX3_replan 63 = .ok (.ireturn, 1) := by decide +kernel
theorem dX3_earliestWaiting_0 : decode cX3_earliestWaiting 0 = .ok (.aconst_null, 1) := by decide +kernel
theorem dX3_earliestWaiting_1 : decode cX3_earliestWaiting 1 = .ok (.astore_n 1, 1) := by decide +kernel
theorem dX3_earliestWaiting_2 : decode cX3_earliestWaiting 2 = .ok (.aload_n 0, 1) := by decide +kernel
theorem dX3_earliestWaiting_3 : decode cX3_earliestWaiting 3 = .ok (.getfield 24, 3) := by decide +kernel
theorem dX3_earliestWaiting_6 : decode cX3_earliestWaiting 6 = .ok (.astore_n 2, 1) := by decide +kernel
theorem dX3_earliestWaiting_7 : decode cX3_earliestWaiting 7 = .ok (.aload_n 2, 1) := by decide +kernel
theorem dX3_earliestWaiting_8 : decode cX3_earliestWaiting 8 = .ok (.arraylength, 1) := by decide +kernel
theorem dX3_earliestWaiting_9 : decode cX3_earliestWaiting 9 = .ok (.istore_n 3, 1) := by decide +kernel
theorem dX3_earliestWaiting_10 : decode cX3_earliestWaiting 10 = .ok (.iconst 0, 1) := by decide +kernel
theorem dX3_earliestWaiting_11 : decode cX3_earliestWaiting 11 = .ok (.istore 4, 2) := by decide +kernel
theorem dX3_earliestWaiting_13 : decode cX3_earliestWaiting 13 = .ok (.iload 4, 2) := by decide +kernel
theorem dX3_earliestWaiting_15 : decode cX3_earliestWaiting 15 = .ok (.iload_n 3, 1) := by decide +kernel
theorem dX3_earliestWaiting_16 : decode cX3_earliestWaiting 16 = .ok (.if_icmp .ge 42, 3) := by decide +kernel
theorem dX3_earliestWaiting_19 : decode cX3_earliestWaiting 19 = .ok (.aload_n 2, 1) := by decide +kernel
theorem dX3_earliestWaiting_20 : decode cX3_earliestWaiting 20 = .ok (.iload 4, 2) := by decide +kernel
theorem dX3_earliestWaiting_22 : decode cX3_earliestWaiting 22 = .ok (.aaload, 1) := by decide +kernel
theorem dX3_earliestWaiting_23 : decode cX3_earliestWaiting 23 = .ok (.astore 5, 2) := by decide +kernel
theorem dX3_earliestWaiting_25 : decode cX3_earliestWaiting 25 = .ok (.aload 5, 2) := by decide +kernel
theorem dX3_earliestWaiting_27 : decode cX3_earliestWaiting 27 = .ok (.getfield 273, 3) := by decide +kernel
theorem dX3_earliestWaiting_30 : decode cX3_earliestWaiting 30 = .ok (.ifCond .eq 22, 3) := by decide +kernel
theorem dX3_earliestWaiting_33 : decode cX3_earliestWaiting 33 = .ok (.aload_n 1, 1) := by decide +kernel
theorem dX3_earliestWaiting_34 : decode cX3_earliestWaiting 34 = .ok (.ifnull 15, 3) := by decide +kernel
theorem dX3_earliestWaiting_37 : decode cX3_earliestWaiting 37 = .ok (.aload 5, 2) := by decide +kernel
theorem dX3_earliestWaiting_39 : decode cX3_earliestWaiting 39 = .ok (.getfield 123, 3) := by decide +kernel
theorem dX3_earliestWaiting_42 : decode cX3_earliestWaiting 42 = .ok (.aload_n 1, 1) := by decide +kernel
theorem dX3_earliestWaiting_43 : decode cX3_earliestWaiting 43 = .ok (.getfield 123, 3) := by decide +kernel
theorem dX3_earliestWaiting_46 : decode cX3_earliestWaiting 46 = .ok (.if_icmp .ge 6, 3) := by decide +kernel
theorem dX3_earliestWaiting_49 : decode cX3_earliestWaiting 49 = .ok (.aload 5, 2) := by decide +kernel
theorem dX3_earliestWaiting_51 : decode cX3_earliestWaiting 51 = .ok (.astore_n 1, 1) := by decide +kernel
theorem dX3_earliestWaiting_52 : decode cX3_earliestWaiting 52 = .ok (.iinc 4 1, 3) := by decide +kernel
theorem dX3_earliestWaiting_55 : decode cX3_earliestWaiting 55 = .ok (.goto (-42), 3) := by decide +kernel
theorem dX3_earliestWaiting_58 : decode cX3_earliestWaiting 58 = .ok (.aload_n 1, 1) := by decide +kernel
theorem dX3_earliestWaiting_59 : decode cX3_earliestWaiting 59 = .ok (.areturn, 1) := by decide +kernel
theorem dX3_typedWish_0 : decode cX3_typedWish 0 = .ok (.aload_n 0, 1) := by decide +kernel
theorem dX3_typedWish_1 : decode cX3_typedWish 1 = .ok (.getfield 31, 3) := by decide +kernel
theorem dX3_typedWish_4 : decode cX3_typedWish 4 = .ok (.invokevirtual 280, 3) := by decide +kernel
theorem dX3_typedWish_7 : decode cX3_typedWish 7 = .ok (.astore_n 1, 1) := by decide +kernel
theorem dX3_typedWish_8 : decode cX3_typedWish 8 = .ok (.getstatic 284, 3) := by decide +kernel
theorem dX3_typedWish_11 : decode cX3_typedWish 11 = .ok (.astore_n 2, 1) := by decide +kernel
theorem dX3_typedWish_12 : decode cX3_typedWish 12 = .ok (.aload_n 2, 1) := by decide +kernel
theorem dX3_typedWish_13 : decode cX3_typedWish 13 = .ok (.arraylength, 1) := by decide +kernel
theorem dX3_typedWish_14 : decode cX3_typedWish 14 = .ok (.istore_n 3, 1) := by decide +kernel
theorem dX3_typedWish_15 : decode cX3_typedWish 15 = .ok (.iconst 0, 1) := by decide +kernel
theorem dX3_typedWish_16 : decode cX3_typedWish 16 = .ok (.istore 4, 2) := by decide +kernel
theorem dX3_typedWish_18 : decode cX3_typedWish 18 = .ok (.iload 4, 2) := by decide +kernel
theorem dX3_typedWish_20 : decode cX3_typedWish 20 = .ok (.iload_n 3, 1) := by decide +kernel
theorem dX3_typedWish_21 : decode cX3_typedWish 21 = .ok (.if_icmp .ge 30, 3) := by decide +kernel
theorem dX3_typedWish_24 : decode cX3_typedWish 24 = .ok (.aload_n 2, 1) := by decide +kernel
theorem dX3_typedWish_25 : decode cX3_typedWish 25 = .ok (.iload 4, 2) := by decide +kernel
theorem dX3_typedWish_27 : decode cX3_typedWish 27 = .ok (.aaload, 1) := by decide +kernel
theorem dX3_typedWish_28 : decode cX3_typedWish 28 = .ok (.astore 5, 2) := by decide +kernel
theorem dX3_typedWish_30 : decode cX3_typedWish 30 = .ok (.aload 5, 2) := by decide +kernel
theorem dX3_typedWish_32 : decode cX3_typedWish 32 = .ok (.getfield 288, 3) := by decide +kernel
theorem dX3_typedWish_35 : decode cX3_typedWish 35 = .ok (.aload_n 1, 1) := by decide +kernel
theorem dX3_typedWish_36 : decode cX3_typedWish 36 = .ok (.invokevirtual 294, 3) := by decide +kernel
theorem dX3_typedWish_39 : decode cX3_typedWish 39 = .ok (.ifCond .eq 6, 3) := by decide +kernel
theorem dX3_typedWish_42 : decode cX3_typedWish 42 = .ok (.aload 5, 2) := by decide +kernel
theorem dX3_typedWish_44 : decode cX3_typedWish 44 = .ok (.areturn, 1) := by decide +kernel
theorem dX3_typedWish_45 : decode cX3_typedWish 45 = .ok (.iinc 4 1, 3) := by decide +kernel
theorem dX3_typedWish_48 : decode cX3_typedWish 48 = .ok (.goto (-30), 3) := by decide +kernel
theorem dX3_typedWish_51 : decode cX3_typedWish 51 = .ok (.aconst_null, 1) := by decide +kernel
theorem dX3_typedWish_52 : decode cX3_typedWish 52 = .ok (.areturn, 1) := by decide +kernel
