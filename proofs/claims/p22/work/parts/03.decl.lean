theorem dL_plan_0 : decode cL_plan 0 = .ok (.iload_n 1, 1) := by decide +kernel
theorem dL_plan_1 : decode cL_plan 1 = .ok (.ifCond .eq 22, 3) := by decide +kernel
theorem dL_plan_4 : decode cL_plan 4 = .ok (.aload_n 0, 1) := by decide +kernel
theorem dL_plan_5 : decode cL_plan 5 = .ok (.iload_n 2, 1) := by decide +kernel
theorem dL_plan_6 : decode cL_plan 6 = .ok (.iload_n 3, 1) := by decide +kernel
theorem dL_plan_7 : decode cL_plan 7 = .ok (.iload 4, 2) := by decide +kernel
theorem dL_plan_9 : decode cL_plan 9 = .ok (.iload 5, 2) := by decide +kernel
theorem dL_plan_11 : decode cL_plan 11 = .ok (.iload 6, 2) := by decide +kernel
theorem dL_plan_13 : decode cL_plan 13 = .ok (.iload 7, 2) := by decide +kernel
theorem dL_plan_15 : decode cL_plan 15 = .ok (.iload 8, 2) := by decide +kernel
theorem dL_plan_17 : decode cL_plan 17 = .ok (.invokevirtual 7, 3) := by decide +kernel
theorem dL_plan_20 : decode cL_plan 20 = .ok (.goto 19, 3) := by decide +kernel
theorem dL_plan_23 : decode cL_plan 23 = .ok (.aload_n 0, 1) := by decide +kernel
theorem dL_plan_24 : decode cL_plan 24 = .ok (.iload_n 2, 1) := by decide +kernel
theorem dL_plan_25 : decode cL_plan 25 = .ok (.iload_n 3, 1) := by decide +kernel
theorem dL_plan_26 : decode cL_plan 26 = .ok (.iload 4, 2) := by decide +kernel
theorem dL_plan_28 : decode cL_plan 28 = .ok (.iload 5, 2) := by decide +kernel
theorem dL_plan_30 : decode cL_plan 30 = .ok (.iload 6, 2) := by decide +kernel
theorem dL_plan_32 : decode cL_plan 32 = .ok (.iload 7, 2) := by decide +kernel
theorem dL_plan_34 : decode cL_plan 34 = .ok (.iload 8, 2) := by decide +kernel
theorem dL_plan_36 : decode cL_plan 36 = .ok (.invokevirtual 13, 3) := by decide +kernel
theorem dL_plan_39 : decode cL_plan 39 = .ok (.ireturn, 1) := by decide +kernel
theorem dL_plan_40 : decode cL_plan 40 = .ok (.astore 9, 2) := by decide +kernel
theorem dL_plan_42 : decode cL_plan 42 = .ok (.bipush (-71), 2) := by decide +kernel
theorem dL_plan_44 : decode cL_plan 44 = .ok (.ireturn, 1) := by decide +kernel
theorem dL_plan_45 : decode cL_plan 45 = .ok (.astore 9, 2) := by decide +kernel
theorem dL_plan_47 : decode cL_plan 47 = .ok (.bipush (-72), 2) := by decide +kernel
theorem dL_plan_49 : decode cL_plan 49 = .ok (.ireturn, 1) := by decide +kernel
theorem dL_plan_50 : decode cL_plan 50 = .ok (.astore 9, 2) := by decide +kernel
theorem dL_plan_52 : decode cL_plan 52 = .ok (.bipush (-73), 2) := by decide +kernel
theorem dL_plan_54 : decode cL_plan 54 = .ok (.ireturn, 1) := by decide +kernel
theorem dL_drop_0 : decode cL_drop 0 = .ok (.aload_n 0, 1) := by decide +kernel
theorem dL_drop_1 : decode cL_drop 1 = .ok (.iload_n 1, 1) := by decide +kernel
theorem dL_drop_2 : decode cL_drop 2 = .ok (.invokevirtual 22, 3) := by decide +kernel
theorem dL_drop_5 : decode cL_drop 5 = .ok (.iconst 0, 1) := by decide +kernel
theorem dL_drop_6 : decode cL_drop 6 = .ok (.ireturn, 1) := by decide +kernel
theorem dL_drop_7 : decode cL_drop 7 = .ok (.astore_n 2, 1) := by decide +kernel
theorem dL_drop_8 : decode cL_drop 8 = .ok (.bipush (-71), 2) := by decide +kernel
theorem dL_drop_10 : decode cL_drop 10 = .ok (.ireturn, 1) := by decide +kernel
theorem dL_drop_11 : decode cL_drop 11 = .ok (.astore_n 2, 1) := by decide +kernel
theorem dL_drop_12 : decode cL_drop 12 = .ok (.bipush (-73), 2) := by decide +kernel
theorem dL_drop_14 : decode cL_drop 14 = .ok (.ireturn, 1) := by decide +kernel
theorem dL_type_0 : decode cL_type 0 = .ok (.aload_n 0, 1) := by decide +kernel
theorem dL_type_1 : decode cL_type 1 = .ok (.iload_n 1, 1) := by decide +kernel
theorem dL_type_2 : decode cL_type 2 = .ok (.invokevirtual 26, 3) := by decide +kernel
theorem dL_type_5 : decode cL_type 5 = .ok (.ireturn, 1) := by decide +kernel
theorem dL_type_6 : decode cL_type 6 = .ok (.astore_n 2, 1) := by decide +kernel
theorem dL_type_7 : decode cL_type 7 = .ok (.bipush (-72), 2) := by decide +kernel
theorem dL_type_9 : decode cL_type 9 = .ok (.ireturn, 1) := by decide +kernel
theorem dL_type_10 : decode cL_type 10 = .ok (.astore_n 2, 1) := by decide +kernel
theorem dL_type_11 : decode cL_type 11 = .ok (.bipush (-73), 2) := by decide +kernel
theorem dL_type_13 : decode cL_type 13 = .ok (.ireturn, 1) := by decide +kernel
theorem dL_act_0 : decode cL_act 0 = .ok (.iload_n 1, 1) := by decide +kernel
theorem dL_act_1 : decode cL_act 1 = .ok (.ifCond .ne 11, 3) := by decide +kernel
theorem dL_act_4 : decode cL_act 4 = .ok (.aload_n 0, 1) := by decide +kernel
theorem dL_act_5 : decode cL_act 5 = .ok (.iload_n 2, 1) := by decide +kernel
theorem dL_act_6 : decode cL_act 6 = .ok (.invokevirtual 30, 3) := by decide +kernel
theorem dL_act_9 : decode cL_act 9 = .ok (.goto 208, 3) := by decide +kernel
theorem dL_act_12 : decode cL_act 12 = .ok (.iload_n 1, 1) := by decide +kernel
theorem dL_act_13 : decode cL_act 13 = .ok (.iconst 1, 1) := by decide +kernel
theorem dL_act_14 : decode cL_act 14 = .ok (.if_icmp .ne 20, 3) := by decide +kernel
theorem dL_act_17 : decode cL_act 17 = .ok (.aload_n 0, 1) := by decide +kernel
theorem dL_act_18 : decode cL_act 18 = .ok (.iload_n 2, 1) := by decide +kernel
theorem dL_act_19 : decode cL_act 19 = .ok (.iload_n 3, 1) := by decide +kernel
theorem dL_act_20 : decode cL_act 20 = .ok (.invokevirtual 34, 3) := by decide +kernel
theorem dL_act_23 : decode cL_act 23 = .ok (.ifCond .eq 7, 3) := by decide +kernel
theorem dL_act_26 : decode cL_act 26 = .ok (.iconst 1, 1) := by decide +kernel
theorem dL_act_27 : decode cL_act 27 = .ok (.goto 190, 3) := by decide +kernel
theorem dL_act_30 : decode cL_act 30 = .ok (.iconst 0, 1) := by decide +kernel
theorem dL_act_31 : decode cL_act 31 = .ok (.goto 186, 3) := by decide +kernel
theorem dL_act_34 : decode cL_act 34 = .ok (.iload_n 1, 1) := by decide +kernel
theorem dL_act_35 : decode cL_act 35 = .ok (.iconst 2, 1) := by decide +kernel
theorem dL_act_36 : decode cL_act 36 = .ok (.if_icmp .ne 20, 3) := by decide +kernel
theorem dL_act_39 : decode cL_act 39 = .ok (.aload_n 0, 1) := by decide +kernel
theorem dL_act_40 : decode cL_act 40 = .ok (.iload_n 2, 1) := by decide +kernel
theorem dL_act_41 : decode cL_act 41 = .ok (.iload_n 3, 1) := by decide +kernel
theorem dL_act_42 : decode cL_act 42 = .ok (.invokevirtual 38, 3) := by decide +kernel
theorem dL_act_45 : decode cL_act 45 = .ok (.ifCond .eq 7, 3) := by decide +kernel
theorem dL_act_48 : decode cL_act 48 = .ok (.iconst 1, 1) := by decide +kernel
theorem dL_act_49 : decode cL_act 49 = .ok (.goto 168, 3) := by decide +kernel
theorem dL_act_52 : decode cL_act 52 = .ok (.iconst 0, 1) := by decide +kernel
theorem dL_act_53 : decode cL_act 53 = .ok (.goto 164, 3) := by decide +kernel
theorem dL_act_56 : decode cL_act 56 = .ok (.iload_n 1, 1) := by decide +kernel
theorem dL_act_57 : decode cL_act 57 = .ok (.iconst 3, 1) := by decide +kernel
theorem dL_act_58 : decode cL_act 58 = .ok (.if_icmp .ne 20, 3) := by decide +kernel
theorem dL_act_61 : decode cL_act 61 = .ok (.aload_n 0, 1) := by decide +kernel
theorem dL_act_62 : decode cL_act 62 = .ok (.iload_n 2, 1) := by decide +kernel
theorem dL_act_63 : decode cL_act 63 = .ok (.iload_n 3, 1) := by decide +kernel
theorem dL_act_64 : decode cL_act 64 = .ok (.invokevirtual 41, 3) := by decide +kernel
theorem dL_act_67 : decode cL_act 67 = .ok (.ifCond .eq 7, 3) := by decide +kernel
theorem dL_act_70 : decode cL_act 70 = .ok (.iconst 1, 1) := by decide +kernel
theorem dL_act_71 : decode cL_act 71 = .ok (.goto 146, 3) := by decide +kernel
theorem dL_act_74 : decode cL_act 74 = .ok (.iconst 0, 1) := by decide +kernel
theorem dL_act_75 : decode cL_act 75 = .ok (.goto 142, 3) := by decide +kernel
theorem dL_act_78 : decode cL_act 78 = .ok (.iload_n 1, 1) := by decide +kernel
theorem dL_act_79 : decode cL_act 79 = .ok (.iconst 4, 1) := by decide +kernel
theorem dL_act_80 : decode cL_act 80 = .ok (.if_icmp .ne 20, 3) := by decide +kernel
theorem dL_act_83 : decode cL_act 83 = .ok (.aload_n 0, 1) := by decide +kernel
theorem dL_act_84 : decode cL_act 84 = .ok (.iload_n 2, 1) := by decide +kernel
theorem dL_act_85 : decode cL_act 85 = .ok (.iload_n 3, 1) := by decide +kernel
theorem dL_act_86 : decode cL_act 86 = .ok (.invokevirtual 44, 3) := by decide +kernel
theorem dL_act_89 : decode cL_act 89 = .ok (.ifCond .eq 7, 3) := by decide +kernel
theorem dL_act_92 : decode cL_act 92 = .ok (.iconst 1, 1) := by decide +kernel
theorem dL_act_93 : decode cL_act 93 = .ok (.goto 124, 3) := by decide +kernel
theorem dL_act_96 : decode cL_act 96 = .ok (.iconst 0, 1) := by decide +kernel
theorem dL_act_97 : decode cL_act 97 = .ok (.goto 120, 3) := by decide +kernel
theorem dL_act_100 : decode cL_act 100 = .ok (.iload_n 1, 1) := by decide +kernel
theorem dL_act_101 : decode cL_act 101 = .ok (.iconst 5, 1) := by decide +kernel
theorem dL_act_102 : decode cL_act 102 = .ok (.if_icmp .ne 11, 3) := by decide +kernel
theorem dL_act_105 : decode cL_act 105 = .ok (.aload_n 0, 1) := by decide +kernel
theorem dL_act_106 : decode cL_act 106 = .ok (.iload_n 2, 1) := by decide +kernel
theorem dL_act_107 : decode cL_act 107 = .ok (.invokevirtual 47, 3) := by decide +kernel
theorem dL_act_110 : decode cL_act 110 = .ok (.goto 107, 3) := by decide +kernel
theorem dL_act_113 : decode cL_act 113 = .ok (.iload_n 1, 1) := by decide +kernel
theorem dL_act_114 : decode cL_act 114 = .ok (.bipush 6, 2) := by decide +kernel
theorem dL_act_116 : decode cL_act 116 = .ok (.if_icmp .ne 12, 3) := by decide +kernel
theorem dL_act_119 : decode cL_act 119 = .ok (.aload_n 0, 1) := by decide +kernel
theorem dL_act_120 : decode cL_act 120 = .ok (.iload_n 2, 1) := by decide +kernel
theorem dL_act_121 : decode cL_act 121 = .ok (.iload_n 3, 1) := by decide +kernel
theorem dL_act_122 : decode cL_act 122 = .ok (.invokevirtual 50, 3) := by decide +kernel
theorem dL_act_125 : decode cL_act 125 = .ok (.goto 92, 3) := by decide +kernel
theorem dL_act_128 : decode cL_act 128 = .ok (.iload_n 1, 1) := by decide +kernel
theorem dL_act_129 : decode cL_act 129 = .ok (.bipush 7, 2) := by decide +kernel
theorem dL_act_131 : decode cL_act 131 = .ok (.if_icmp .ne 19, 3) := by decide +kernel
theorem dL_act_134 : decode cL_act 134 = .ok (.aload_n 0, 1) := by decide +kernel
theorem dL_act_135 : decode cL_act 135 = .ok (.iload_n 2, 1) := by decide +kernel
theorem dL_act_136 : decode cL_act 136 = .ok (.invokevirtual 54, 3) := by decide +kernel
theorem dL_act_139 : decode cL_act 139 = .ok (.ifCond .eq 7, 3) := by decide +kernel
theorem dL_act_142 : decode cL_act 142 = .ok (.iconst 1, 1) := by decide +kernel
theorem dL_act_143 : decode cL_act 143 = .ok (.goto 74, 3) := by decide +kernel
theorem dL_act_146 : decode cL_act 146 = .ok (.iconst 0, 1) := by decide +kernel
theorem dL_act_147 : decode cL_act 147 = .ok (.goto 70, 3) := by decide +kernel
theorem dL_act_150 : decode cL_act 150 = .ok (.iload_n 1, 1) := by decide +kernel
theorem dL_act_151 : decode cL_act 151 = .ok (.bipush 8, 2) := by decide +kernel
theorem dL_act_153 : decode cL_act 153 = .ok (.if_icmp .ne 12, 3) := by decide +kernel
theorem dL_act_156 : decode cL_act 156 = .ok (.aload_n 0, 1) := by decide +kernel
theorem dL_act_157 : decode cL_act 157 = .ok (.iload_n 2, 1) := by decide +kernel
theorem dL_act_158 : decode cL_act 158 = .ok (.iload_n 3, 1) := by decide +kernel
theorem dL_act_159 : decode cL_act 159 = .ok (.invokevirtual 58, 3) := by decide +kernel
theorem dL_act_162 : decode cL_act 162 = .ok (.goto 55, 3) := by decide +kernel
theorem dL_act_165 : decode cL_act 165 = .ok (.iload_n 1, 1) := by decide +kernel
theorem dL_act_166 : decode cL_act 166 = .ok (.bipush 9, 2) := by decide +kernel
theorem dL_act_168 : decode cL_act 168 = .ok (.if_icmp .ne 14, 3) := by decide +kernel
theorem dL_act_171 : decode cL_act 171 = .ok (.aload_n 0, 1) := by decide +kernel
theorem dL_act_172 : decode cL_act 172 = .ok (.iload_n 2, 1) := by decide +kernel
theorem dL_act_173 : decode cL_act 173 = .ok (.iload_n 3, 1) := by decide +kernel
theorem dL_act_174 : decode cL_act 174 = .ok (.iload 4, 2) := by decide +kernel
theorem dL_act_176 : decode cL_act 176 = .ok (.invokevirtual 61, 3) := by decide +kernel
theorem dL_act_179 : decode cL_act 179 = .ok (.goto 38, 3) := by decide +kernel
theorem dL_act_182 : decode cL_act 182 = .ok (.iload_n 1, 1) := by decide +kernel
theorem dL_act_183 : decode cL_act 183 = .ok (.bipush 10, 2) := by decide +kernel
theorem dL_act_185 : decode cL_act 185 = .ok (.if_icmp .ne 12, 3) := by decide +kernel
theorem dL_act_188 : decode cL_act 188 = .ok (.aload_n 0, 1) := by decide +kernel
theorem dL_act_189 : decode cL_act 189 = .ok (.iload_n 2, 1) := by decide +kernel
theorem dL_act_190 : decode cL_act 190 = .ok (.iload_n 3, 1) := by decide +kernel
theorem dL_act_191 : decode cL_act 191 = .ok (.invokevirtual 65, 3) := by decide +kernel
theorem dL_act_194 : decode cL_act 194 = .ok (.goto 23, 3) := by decide +kernel
theorem dL_act_197 : decode cL_act 197 = .ok (.iload_n 1, 1) := by decide +kernel
theorem dL_act_198 : decode cL_act 198 = .ok (.bipush 11, 2) := by decide +kernel
theorem dL_act_200 : decode cL_act 200 = .ok (.if_icmp .ne 12, 3) := by decide +kernel
theorem dL_act_203 : decode cL_act 203 = .ok (.aload_n 0, 1) := by decide +kernel
theorem dL_act_204 : decode cL_act 204 = .ok (.iload_n 2, 1) := by decide +kernel
theorem dL_act_205 : decode cL_act 205 = .ok (.iload_n 3, 1) := by decide +kernel
theorem dL_act_206 : decode cL_act 206 = .ok (.invokevirtual 68, 3) := by decide +kernel
theorem dL_act_209 : decode cL_act 209 = .ok (.goto 8, 3) := by decide +kernel
theorem dL_act_212 : decode cL_act 212 = .ok (.aload_n 0, 1) := by decide +kernel
theorem dL_act_213 : decode cL_act 213 = .ok (.iload_n 2, 1) := by decide +kernel
theorem dL_act_214 : decode cL_act 214 = .ok (.invokevirtual 71, 3) := by decide +kernel
theorem dL_act_217 : decode cL_act 217 = .ok (.ireturn, 1) := by decide +kernel
theorem dL_act_218 : decode cL_act 218 = .ok (.astore 5, 2) := by decide +kernel
theorem dL_act_220 : decode cL_act 220 = .ok (.bipush (-71), 2) := by decide +kernel
theorem dL_act_222 : decode cL_act 222 = .ok (.ireturn, 1) := by decide +kernel
theorem dL_act_223 : decode cL_act 223 = .ok (.astore 5, 2) := by decide +kernel
theorem dL_act_225 : decode cL_act 225 = .ok (.bipush (-72), 2) := by decide +kernel
theorem dL_act_227 : decode cL_act 227 = .ok (.ireturn, 1) := by decide +kernel
theorem dL_act_228 : decode cL_act 228 = .ok (.astore 5, 2) := by decide +kernel
theorem dL_act_230 : decode cL_act 230 = .ok (.bipush (-73), 2) := by decide +kernel
theorem dL_act_232 : decode cL_act 232 = .ok (.ireturn, 1) := by decide +kernel
theorem dL_refuses_0 : decode cL_refuses 0 = .ok (.aload_n 0, 1) := by decide +kernel
theorem dL_refuses_1 : decode cL_refuses 1 = .ok (.iconst 0, 1) := by decide +kernel
theorem dL_refuses_2 : decode cL_refuses 2 = .ok (.iconst 0, 1) := by decide +kernel
theorem dL_refuses_3 : decode cL_refuses 3 = .ok (.invokevirtual 65, 3) := by decide +kernel
theorem dL_refuses_6 : decode cL_refuses 6 = .ok (.istore_n 2, 1) := by decide +kernel
theorem dL_refuses_7 : decode cL_refuses 7 = .ok (.aload_n 0, 1) := by decide +kernel
theorem dL_refuses_8 : decode cL_refuses 8 = .ok (.sipush 500, 3) := by decide +kernel
theorem dL_refuses_11 : decode cL_refuses 11 = .ok (.invokevirtual 71, 3) := by decide +kernel
theorem dL_refuses_14 : decode cL_refuses 14 = .ok (.istore_n 3, 1) := by decide +kernel
theorem dL_refuses_15 : decode cL_refuses 15 = .ok (.aload_n 0, 1) := by decide +kernel
theorem dL_refuses_16 : decode cL_refuses 16 = .ok (.invokevirtual 74, 3) := by decide +kernel
theorem dL_refuses_19 : decode cL_refuses 19 = .ok (.istore 4, 2) := by decide +kernel
theorem dL_refuses_21 : decode cL_refuses 21 = .ok (.ldc 78, 2) := by decide +kernel
theorem dL_refuses_23 : decode cL_refuses 23 = .ok (.istore 5, 2) := by decide +kernel
theorem dL_refuses_25 : decode cL_refuses 25 = .ok (.iconst 0, 1) := by decide +kernel
theorem dL_refuses_26 : decode cL_refuses 26 = .ok (.istore 6, 2) := by decide +kernel
theorem dL_refuses_28 : decode cL_refuses 28 = .ok (.iload 6, 2) := by decide +kernel
theorem dL_refuses_30 : decode cL_refuses 30 = .ok (.iconst 4, 1) := by decide +kernel
theorem dL_refuses_31 : decode cL_refuses 31 = .ok (.if_icmp .ge 798, 3) := by decide +kernel
theorem dL_refuses_34 : decode cL_refuses 34 = .ok (.iload 6, 2) := by decide +kernel
theorem dL_refuses_36 : decode cL_refuses 36 = .ok (.ifCond .ne 7, 3) := by decide +kernel
theorem dL_refuses_39 : decode cL_refuses 39 = .ok (.iconst (-1), 1) := by decide +kernel
theorem dL_refuses_40 : decode cL_refuses 40 = .ok (.goto 19, 3) := by decide +kernel
theorem dL_refuses_43 : decode cL_refuses 43 = .ok (.iload 6, 2) := by decide +kernel
theorem dL_refuses_45 : decode cL_refuses 45 = .ok (.iconst 2, 1) := by decide +kernel
theorem dL_refuses_46 : decode cL_refuses 46 = .ok (.if_icmp .ne 8, 3) := by decide +kernel
theorem dL_refuses_49 : decode cL_refuses 49 = .ok (.iload 5, 2) := by decide +kernel
theorem dL_refuses_51 : decode cL_refuses 51 = .ok (.goto 8, 3) := by decide +kernel
theorem dL_refuses_54 : decode cL_refuses 54 = .ok (.iload 5, 2) := by decide +kernel
theorem dL_refuses_56 : decode cL_refuses 56 = .ok (.ineg, 1) := by decide +kernel
theorem dL_refuses_57 : decode cL_refuses 57 = .ok (.iconst 1, 1) := by decide +kernel
theorem dL_refuses_58 : decode cL_refuses 58 = .ok (.isub, 1) := by decide +kernel
theorem dL_refuses_59 : decode cL_refuses 59 = .ok (.istore 7, 2) := by decide +kernel
theorem dL_refuses_61 : decode cL_refuses 61 = .ok (.iload 6, 2) := by decide +kernel
theorem dL_refuses_63 : decode cL_refuses 63 = .ok (.iconst 1, 1) := by decide +kernel
theorem dL_refuses_64 : decode cL_refuses 64 = .ok (.if_icmp .ne 7, 3) := by decide +kernel
theorem dL_refuses_67 : decode cL_refuses 67 = .ok (.iconst 3, 1) := by decide +kernel
theorem dL_refuses_68 : decode cL_refuses 68 = .ok (.goto 5, 3) := by decide +kernel
theorem dL_refuses_71 : decode cL_refuses 71 = .ok (.iload 7, 2) := by decide +kernel
theorem dL_refuses_73 : decode cL_refuses 73 = .ok (.istore 8, 2) := by decide +kernel
theorem dL_refuses_75 : decode cL_refuses 75 = .ok (.iload 6, 2) := by decide +kernel
theorem dL_refuses_77 : decode cL_refuses 77 = .ok (.iconst 1, 1) := by decide +kernel
theorem dL_refuses_78 : decode cL_refuses 78 = .ok (.if_icmp .ne 9, 3) := by decide +kernel
theorem dL_refuses_81 : decode cL_refuses 81 = .ok (.sipush 1000, 3) := by decide +kernel
theorem dL_refuses_84 : decode cL_refuses 84 = .ok (.goto 5, 3) := by decide +kernel
theorem dL_refuses_87 : decode cL_refuses 87 = .ok (.iload 7, 2) := by decide +kernel
theorem dL_refuses_89 : decode cL_refuses 89 = .ok (.istore 9, 2) := by decide +kernel
theorem dL_refuses_91 : decode cL_refuses 91 = .ok (.iload 6, 2) := by decide +kernel
theorem dL_refuses_93 : decode cL_refuses 93 = .ok (.iconst 1, 1) := by decide +kernel
theorem dL_refuses_94 : decode cL_refuses 94 = .ok (.if_icmp .ne 9, 3) := by decide +kernel
theorem dL_refuses_97 : decode cL_refuses 97 = .ok (.sipush 201, 3) := by decide +kernel
theorem dL_refuses_100 : decode cL_refuses 100 = .ok (.goto 5, 3) := by decide +kernel
theorem dL_refuses_103 : decode cL_refuses 103 = .ok (.iload 7, 2) := by decide +kernel
theorem dL_refuses_105 : decode cL_refuses 105 = .ok (.istore 10, 2) := by decide +kernel
theorem dL_refuses_107 : decode cL_refuses 107 = .ok (.iload 6, 2) := by decide +kernel
theorem dL_refuses_109 : decode cL_refuses 109 = .ok (.iconst 1, 1) := by decide +kernel
theorem dL_refuses_110 : decode cL_refuses 110 = .ok (.if_icmp .ne 7, 3) := by decide +kernel
theorem dL_refuses_113 : decode cL_refuses 113 = .ok (.iload_n 1, 1) := by decide +kernel
theorem dL_refuses_114 : decode cL_refuses 114 = .ok (.goto 5, 3) := by decide +kernel
theorem dL_refuses_117 : decode cL_refuses 117 = .ok (.iload 7, 2) := by decide +kernel
theorem dL_refuses_119 : decode cL_refuses 119 = .ok (.istore 11, 2) := by decide +kernel
theorem dL_refuses_121 : decode cL_refuses 121 = .ok (.iload 6, 2) := by decide +kernel
theorem dL_refuses_123 : decode cL_refuses 123 = .ok (.ifCond .ne 8, 3) := by decide +kernel
theorem dL_refuses_126 : decode cL_refuses 126 = .ok (.bipush (-2), 2) := by decide +kernel
theorem dL_refuses_128 : decode cL_refuses 128 = .ok (.goto 16, 3) := by decide +kernel
theorem dL_refuses_131 : decode cL_refuses 131 = .ok (.iload 6, 2) := by decide +kernel
theorem dL_refuses_133 : decode cL_refuses 133 = .ok (.iconst 1, 1) := by decide +kernel
theorem dL_refuses_134 : decode cL_refuses 134 = .ok (.if_icmp .ne 8, 3) := by decide +kernel
theorem dL_refuses_137 : decode cL_refuses 137 = .ok (.bipush 32, 2) := by decide +kernel
theorem dL_refuses_139 : decode cL_refuses 139 = .ok (.goto 5, 3) := by decide +kernel
theorem dL_refuses_142 : decode cL_refuses 142 = .ok (.iload 7, 2) := by decide +kernel
theorem dL_refuses_144 : decode cL_refuses 144 = .ok (.istore 12, 2) := by decide +kernel
theorem dL_refuses_146 : decode cL_refuses 146 = .ok (.aload_n 0, 1) := by decide +kernel
theorem dL_refuses_147 : decode cL_refuses 147 = .ok (.iconst 0, 1) := by decide +kernel
theorem dL_refuses_148 : decode cL_refuses 148 = .ok (.iload 9, 2) := by decide +kernel
theorem dL_refuses_150 : decode cL_refuses 150 = .ok (.iconst 0, 1) := by decide +kernel
theorem dL_refuses_151 : decode cL_refuses 151 = .ok (.iconst 0, 1) := by decide +kernel
theorem dL_refuses_152 : decode cL_refuses 152 = .ok (.invokestatic 79, 3) := by decide +kernel
theorem dL_refuses_155 : decode cL_refuses 155 = .ok (.bipush (-72), 2) := by decide +kernel
theorem dL_refuses_157 : decode cL_refuses 157 = .ok (.if_icmp .ne 372, 3) := by decide +kernel
theorem dL_refuses_160 : decode cL_refuses 160 = .ok (.aload_n 0, 1) := by decide +kernel
theorem dL_refuses_161 : decode cL_refuses 161 = .ok (.iconst 1, 1) := by decide +kernel
theorem dL_refuses_162 : decode cL_refuses 162 = .ok (.iload 8, 2) := by decide +kernel
theorem dL_refuses_164 : decode cL_refuses 164 = .ok (.iconst (-1), 1) := by decide +kernel
theorem dL_refuses_165 : decode cL_refuses 165 = .ok (.iconst 0, 1) := by decide +kernel
theorem dL_refuses_166 : decode cL_refuses 166 = .ok (.invokestatic 79, 3) := by decide +kernel
theorem dL_refuses_169 : decode cL_refuses 169 = .ok (.bipush (-71), 2) := by decide +kernel
theorem dL_refuses_171 : decode cL_refuses 171 = .ok (.if_icmp .ne 358, 3) := by decide +kernel
theorem dL_refuses_174 : decode cL_refuses 174 = .ok (.aload_n 0, 1) := by decide +kernel
theorem dL_refuses_175 : decode cL_refuses 175 = .ok (.iconst 1, 1) := by decide +kernel
theorem dL_refuses_176 : decode cL_refuses 176 = .ok (.iconst 0, 1) := by decide +kernel
theorem dL_refuses_177 : decode cL_refuses 177 = .ok (.iload 6, 2) := by decide +kernel
theorem dL_refuses_179 : decode cL_refuses 179 = .ok (.iconst 1, 1) := by decide +kernel
theorem dL_refuses_180 : decode cL_refuses 180 = .ok (.if_icmp .ne 8, 3) := by decide +kernel
theorem dL_refuses_183 : decode cL_refuses 183 = .ok (.bipush 61, 2) := by decide +kernel
theorem dL_refuses_185 : decode cL_refuses 185 = .ok (.goto 5, 3) := by decide +kernel
theorem dL_refuses_188 : decode cL_refuses 188 = .ok (.iload 7, 2) := by decide +kernel
theorem dL_refuses_190 : decode cL_refuses 190 = .ok (.iconst 0, 1) := by decide +kernel
theorem dL_refuses_191 : decode cL_refuses 191 = .ok (.invokestatic 79, 3) := by decide +kernel
theorem dL_refuses_194 : decode cL_refuses 194 = .ok (.bipush (-72), 2) := by decide +kernel
theorem dL_refuses_196 : decode cL_refuses 196 = .ok (.if_icmp .ne 333, 3) := by decide +kernel
theorem dL_refuses_199 : decode cL_refuses 199 = .ok (.aload_n 0, 1) := by decide +kernel
theorem dL_refuses_200 : decode cL_refuses 200 = .ok (.iconst 2, 1) := by decide +kernel
theorem dL_refuses_201 : decode cL_refuses 201 = .ok (.iload 8, 2) := by decide +kernel
theorem dL_refuses_203 : decode cL_refuses 203 = .ok (.iconst 0, 1) := by decide +kernel
theorem dL_refuses_204 : decode cL_refuses 204 = .ok (.iconst 0, 1) := by decide +kernel
theorem dL_refuses_205 : decode cL_refuses 205 = .ok (.invokestatic 79, 3) := by decide +kernel
theorem dL_refuses_208 : decode cL_refuses 208 = .ok (.bipush (-71), 2) := by decide +kernel
theorem dL_refuses_210 : decode cL_refuses 210 = .ok (.if_icmp .ne 319, 3) := by decide +kernel
theorem dL_refuses_213 : decode cL_refuses 213 = .ok (.aload_n 0, 1) := by decide +kernel
theorem dL_refuses_214 : decode cL_refuses 214 = .ok (.iconst 2, 1) := by decide +kernel
theorem dL_refuses_215 : decode cL_refuses 215 = .ok (.iconst 0, 1) := by decide +kernel
theorem dL_refuses_216 : decode cL_refuses 216 = .ok (.iload 6, 2) := by decide +kernel
theorem dL_refuses_218 : decode cL_refuses 218 = .ok (.ifCond .ne 8, 3) := by decide +kernel
theorem dL_refuses_221 : decode cL_refuses 221 = .ok (.bipush 9, 2) := by decide +kernel
theorem dL_refuses_223 : decode cL_refuses 223 = .ok (.goto 17, 3) := by decide +kernel
theorem dL_refuses_226 : decode cL_refuses 226 = .ok (.iload 6, 2) := by decide +kernel
theorem dL_refuses_228 : decode cL_refuses 228 = .ok (.iconst 1, 1) := by decide +kernel
theorem dL_refuses_229 : decode cL_refuses 229 = .ok (.if_icmp .ne 9, 3) := by decide +kernel
theorem dL_refuses_232 : decode cL_refuses 232 = .ok (.sipush 301, 3) := by decide +kernel
theorem dL_refuses_235 : decode cL_refuses 235 = .ok (.goto 5, 3) := by decide +kernel
theorem dL_refuses_238 : decode cL_refuses 238 = .ok (.iload 7, 2) := by decide +kernel
theorem dL_refuses_240 : decode cL_refuses 240 = .ok (.iconst 0, 1) := by decide +kernel
theorem dL_refuses_241 : decode cL_refuses 241 = .ok (.invokestatic 79, 3) := by decide +kernel
theorem dL_refuses_244 : decode cL_refuses 244 = .ok (.bipush (-72), 2) := by decide +kernel
theorem dL_refuses_246 : decode cL_refuses 246 = .ok (.if_icmp .ne 283, 3) := by decide +kernel
theorem dL_refuses_249 : decode cL_refuses 249 = .ok (.aload_n 0, 1) := by decide +kernel
theorem dL_refuses_250 : decode cL_refuses 250 = .ok (.iconst 3, 1) := by decide +kernel
theorem dL_refuses_251 : decode cL_refuses 251 = .ok (.iload 6, 2) := by decide +kernel
theorem dL_refuses_253 : decode cL_refuses 253 = .ok (.iconst 1, 1) := by decide +kernel
theorem dL_refuses_254 : decode cL_refuses 254 = .ok (.if_icmp .ne 8, 3) := by decide +kernel
theorem dL_refuses_257 : decode cL_refuses 257 = .ok (.bipush 17, 2) := by decide +kernel
theorem dL_refuses_259 : decode cL_refuses 259 = .ok (.goto 5, 3) := by decide +kernel
theorem dL_refuses_262 : decode cL_refuses 262 = .ok (.iload 7, 2) := by decide +kernel
theorem dL_refuses_264 : decode cL_refuses 264 = .ok (.bipush 99, 2) := by decide +kernel
theorem dL_refuses_266 : decode cL_refuses 266 = .ok (.iconst 0, 1) := by decide +kernel
theorem dL_refuses_267 : decode cL_refuses 267 = .ok (.invokestatic 79, 3) := by decide +kernel
theorem dL_refuses_270 : decode cL_refuses 270 = .ok (.bipush (-71), 2) := by decide +kernel
theorem dL_refuses_272 : decode cL_refuses 272 = .ok (.if_icmp .ne 257, 3) := by decide +kernel
theorem dL_refuses_275 : decode cL_refuses 275 = .ok (.aload_n 0, 1) := by decide +kernel
theorem dL_refuses_276 : decode cL_refuses 276 = .ok (.iconst 3, 1) := by decide +kernel
theorem dL_refuses_277 : decode cL_refuses 277 = .ok (.iconst 0, 1) := by decide +kernel
theorem dL_refuses_278 : decode cL_refuses 278 = .ok (.iload 6, 2) := by decide +kernel
theorem dL_refuses_280 : decode cL_refuses 280 = .ok (.ifCond .ne 8, 3) := by decide +kernel
theorem dL_refuses_283 : decode cL_refuses 283 = .ok (.bipush (-11), 2) := by decide +kernel
theorem dL_refuses_285 : decode cL_refuses 285 = .ok (.goto 16, 3) := by decide +kernel
theorem dL_refuses_288 : decode cL_refuses 288 = .ok (.iload 6, 2) := by decide +kernel
theorem dL_refuses_290 : decode cL_refuses 290 = .ok (.iconst 1, 1) := by decide +kernel
theorem dL_refuses_291 : decode cL_refuses 291 = .ok (.if_icmp .ne 8, 3) := by decide +kernel
theorem dL_refuses_294 : decode cL_refuses 294 = .ok (.bipush 11, 2) := by decide +kernel
theorem dL_refuses_296 : decode cL_refuses 296 = .ok (.goto 5, 3) := by decide +kernel
theorem dL_refuses_299 : decode cL_refuses 299 = .ok (.iload 7, 2) := by decide +kernel
theorem dL_refuses_301 : decode cL_refuses 301 = .ok (.iconst 0, 1) := by decide +kernel
theorem dL_refuses_302 : decode cL_refuses 302 = .ok (.invokestatic 79, 3) := by decide +kernel
theorem dL_refuses_305 : decode cL_refuses 305 = .ok (.bipush (-72), 2) := by decide +kernel
theorem dL_refuses_307 : decode cL_refuses 307 = .ok (.if_icmp .ne 222, 3) := by decide +kernel
theorem dL_refuses_310 : decode cL_refuses 310 = .ok (.aload_n 0, 1) := by decide +kernel
theorem dL_refuses_311 : decode cL_refuses 311 = .ok (.iconst 4, 1) := by decide +kernel
theorem dL_refuses_312 : decode cL_refuses 312 = .ok (.iload 11, 2) := by decide +kernel
theorem dL_refuses_314 : decode cL_refuses 314 = .ok (.iconst (-1), 1) := by decide +kernel
theorem dL_refuses_315 : decode cL_refuses 315 = .ok (.iconst 0, 1) := by decide +kernel
theorem dL_refuses_316 : decode cL_refuses 316 = .ok (.invokestatic 79, 3) := by decide +kernel
theorem dL_refuses_319 : decode cL_refuses 319 = .ok (.bipush (-71), 2) := by decide +kernel
theorem dL_refuses_321 : decode cL_refuses 321 = .ok (.if_icmp .ne 208, 3) := by decide +kernel
theorem dL_refuses_324 : decode cL_refuses 324 = .ok (.aload_n 0, 1) := by decide +kernel
theorem dL_refuses_325 : decode cL_refuses 325 = .ok (.iconst 5, 1) := by decide +kernel
theorem dL_refuses_326 : decode cL_refuses 326 = .ok (.iload 11, 2) := by decide +kernel
theorem dL_refuses_328 : decode cL_refuses 328 = .ok (.iconst 0, 1) := by decide +kernel
theorem dL_refuses_329 : decode cL_refuses 329 = .ok (.iconst 0, 1) := by decide +kernel
theorem dL_refuses_330 : decode cL_refuses 330 = .ok (.invokestatic 79, 3) := by decide +kernel
theorem dL_refuses_333 : decode cL_refuses 333 = .ok (.bipush (-71), 2) := by decide +kernel
theorem dL_refuses_335 : decode cL_refuses 335 = .ok (.if_icmp .ne 194, 3) := by decide +kernel
theorem dL_refuses_338 : decode cL_refuses 338 = .ok (.aload_n 0, 1) := by decide +kernel
theorem dL_refuses_339 : decode cL_refuses 339 = .ok (.bipush 6, 2) := by decide +kernel
theorem dL_refuses_341 : decode cL_refuses 341 = .ok (.iload 11, 2) := by decide +kernel
theorem dL_refuses_343 : decode cL_refuses 343 = .ok (.iconst (-1), 1) := by decide +kernel
theorem dL_refuses_344 : decode cL_refuses 344 = .ok (.iconst 0, 1) := by decide +kernel
theorem dL_refuses_345 : decode cL_refuses 345 = .ok (.invokestatic 79, 3) := by decide +kernel
theorem dL_refuses_348 : decode cL_refuses 348 = .ok (.bipush (-71), 2) := by decide +kernel
theorem dL_refuses_350 : decode cL_refuses 350 = .ok (.if_icmp .ne 179, 3) := by decide +kernel
theorem dL_refuses_353 : decode cL_refuses 353 = .ok (.aload_n 0, 1) := by decide +kernel
theorem dL_refuses_354 : decode cL_refuses 354 = .ok (.iload 11, 2) := by decide +kernel
theorem dL_refuses_356 : decode cL_refuses 356 = .ok (.invokestatic 85, 3) := by decide +kernel
theorem dL_refuses_359 : decode cL_refuses 359 = .ok (.bipush (-71), 2) := by decide +kernel
theorem dL_refuses_361 : decode cL_refuses 361 = .ok (.if_icmp .ne 168, 3) := by decide +kernel
theorem dL_refuses_364 : decode cL_refuses 364 = .ok (.aload_n 0, 1) := by decide +kernel
theorem dL_refuses_365 : decode cL_refuses 365 = .ok (.bipush 7, 2) := by decide +kernel
theorem dL_refuses_367 : decode cL_refuses 367 = .ok (.iload 11, 2) := by decide +kernel
theorem dL_refuses_369 : decode cL_refuses 369 = .ok (.iconst 0, 1) := by decide +kernel
theorem dL_refuses_370 : decode cL_refuses 370 = .ok (.iconst 0, 1) := by decide +kernel
theorem dL_refuses_371 : decode cL_refuses 371 = .ok (.invokestatic 79, 3) := by decide +kernel
theorem dL_refuses_374 : decode cL_refuses 374 = .ok (.bipush (-71), 2) := by decide +kernel
theorem dL_refuses_376 : decode cL_refuses 376 = .ok (.if_icmp .ne 153, 3) := by decide +kernel
theorem dL_refuses_379 : decode cL_refuses 379 = .ok (.aload_n 0, 1) := by decide +kernel
theorem dL_refuses_380 : decode cL_refuses 380 = .ok (.bipush 8, 2) := by decide +kernel
theorem dL_refuses_382 : decode cL_refuses 382 = .ok (.iload 11, 2) := by decide +kernel
theorem dL_refuses_384 : decode cL_refuses 384 = .ok (.iconst 0, 1) := by decide +kernel
theorem dL_refuses_385 : decode cL_refuses 385 = .ok (.iconst 0, 1) := by decide +kernel
theorem dL_refuses_386 : decode cL_refuses 386 = .ok (.invokestatic 79, 3) := by decide +kernel
theorem dL_refuses_389 : decode cL_refuses 389 = .ok (.bipush (-71), 2) := by decide +kernel
theorem dL_refuses_391 : decode cL_refuses 391 = .ok (.if_icmp .ne 138, 3) := by decide +kernel
theorem dL_refuses_394 : decode cL_refuses 394 = .ok (.aload_n 0, 1) := by decide +kernel
theorem dL_refuses_395 : decode cL_refuses 395 = .ok (.bipush 9, 2) := by decide +kernel
theorem dL_refuses_397 : decode cL_refuses 397 = .ok (.iload 8, 2) := by decide +kernel
theorem dL_refuses_399 : decode cL_refuses 399 = .ok (.iconst (-1), 1) := by decide +kernel
theorem dL_refuses_400 : decode cL_refuses 400 = .ok (.iconst 0, 1) := by decide +kernel
theorem dL_refuses_401 : decode cL_refuses 401 = .ok (.invokestatic 79, 3) := by decide +kernel
theorem dL_refuses_404 : decode cL_refuses 404 = .ok (.bipush (-71), 2) := by decide +kernel
theorem dL_refuses_406 : decode cL_refuses 406 = .ok (.if_icmp .ne 123, 3) := by decide +kernel
theorem dL_refuses_409 : decode cL_refuses 409 = .ok (.aload_n 0, 1) := by decide +kernel
theorem dL_refuses_410 : decode cL_refuses 410 = .ok (.bipush 9, 2) := by decide +kernel
theorem dL_refuses_412 : decode cL_refuses 412 = .ok (.iconst 0, 1) := by decide +kernel
theorem dL_refuses_413 : decode cL_refuses 413 = .ok (.iload 9, 2) := by decide +kernel
theorem dL_refuses_415 : decode cL_refuses 415 = .ok (.iconst 5, 1) := by decide +kernel
theorem dL_refuses_416 : decode cL_refuses 416 = .ok (.invokestatic 79, 3) := by decide +kernel
theorem dL_refuses_419 : decode cL_refuses 419 = .ok (.bipush (-72), 2) := by decide +kernel
theorem dL_refuses_421 : decode cL_refuses 421 = .ok (.if_icmp .ne 108, 3) := by decide +kernel
theorem dL_refuses_424 : decode cL_refuses 424 = .ok (.aload_n 0, 1) := by decide +kernel
theorem dL_refuses_425 : decode cL_refuses 425 = .ok (.bipush 9, 2) := by decide +kernel
theorem dL_refuses_427 : decode cL_refuses 427 = .ok (.iconst 0, 1) := by decide +kernel
theorem dL_refuses_428 : decode cL_refuses 428 = .ok (.iconst 5, 1) := by decide +kernel
theorem dL_refuses_429 : decode cL_refuses 429 = .ok (.iload 6, 2) := by decide +kernel
theorem dL_refuses_431 : decode cL_refuses 431 = .ok (.ifCond .ne 7, 3) := by decide +kernel
theorem dL_refuses_434 : decode cL_refuses 434 = .ok (.iconst 0, 1) := by decide +kernel
theorem dL_refuses_435 : decode cL_refuses 435 = .ok (.goto 5, 3) := by decide +kernel
theorem dL_refuses_438 : decode cL_refuses 438 = .ok (.iload 10, 2) := by decide +kernel
theorem dL_refuses_440 : decode cL_refuses 440 = .ok (.invokestatic 79, 3) := by decide +kernel
theorem dL_refuses_443 : decode cL_refuses 443 = .ok (.bipush (-72), 2) := by decide +kernel
theorem dL_refuses_445 : decode cL_refuses 445 = .ok (.if_icmp .ne 84, 3) := by decide +kernel
theorem dL_refuses_448 : decode cL_refuses 448 = .ok (.aload_n 0, 1) := by decide +kernel
theorem dL_refuses_449 : decode cL_refuses 449 = .ok (.bipush 10, 2) := by decide +kernel
theorem dL_refuses_451 : decode cL_refuses 451 = .ok (.iload 9, 2) := by decide +kernel
theorem dL_refuses_453 : decode cL_refuses 453 = .ok (.iload 8, 2) := by decide +kernel
theorem dL_refuses_455 : decode cL_refuses 455 = .ok (.iconst 0, 1) := by decide +kernel
theorem dL_refuses_456 : decode cL_refuses 456 = .ok (.invokestatic 79, 3) := by decide +kernel
theorem dL_refuses_459 : decode cL_refuses 459 = .ok (.bipush (-71), 2) := by decide +kernel
theorem dL_refuses_461 : decode cL_refuses 461 = .ok (.if_icmp .ne 68, 3) := by decide +kernel
theorem dL_refuses_464 : decode cL_refuses 464 = .ok (.aload_n 0, 1) := by decide +kernel
theorem dL_refuses_465 : decode cL_refuses 465 = .ok (.bipush 10, 2) := by decide +kernel
theorem dL_refuses_467 : decode cL_refuses 467 = .ok (.iload 9, 2) := by decide +kernel
theorem dL_refuses_469 : decode cL_refuses 469 = .ok (.iconst 0, 1) := by decide +kernel
theorem dL_refuses_470 : decode cL_refuses 470 = .ok (.iconst 0, 1) := by decide +kernel
theorem dL_refuses_471 : decode cL_refuses 471 = .ok (.invokestatic 79, 3) := by decide +kernel
theorem dL_refuses_474 : decode cL_refuses 474 = .ok (.bipush (-72), 2) := by decide +kernel
theorem dL_refuses_476 : decode cL_refuses 476 = .ok (.if_icmp .ne 53, 3) := by decide +kernel
theorem dL_refuses_479 : decode cL_refuses 479 = .ok (.aload_n 0, 1) := by decide +kernel
theorem dL_refuses_480 : decode cL_refuses 480 = .ok (.bipush 11, 2) := by decide +kernel
theorem dL_refuses_482 : decode cL_refuses 482 = .ok (.iload 9, 2) := by decide +kernel
theorem dL_refuses_484 : decode cL_refuses 484 = .ok (.iload 8, 2) := by decide +kernel
theorem dL_refuses_486 : decode cL_refuses 486 = .ok (.iconst 0, 1) := by decide +kernel
theorem dL_refuses_487 : decode cL_refuses 487 = .ok (.invokestatic 79, 3) := by decide +kernel
theorem dL_refuses_490 : decode cL_refuses 490 = .ok (.bipush (-71), 2) := by decide +kernel
theorem dL_refuses_492 : decode cL_refuses 492 = .ok (.if_icmp .ne 37, 3) := by decide +kernel
theorem dL_refuses_495 : decode cL_refuses 495 = .ok (.aload_n 0, 1) := by decide +kernel
theorem dL_refuses_496 : decode cL_refuses 496 = .ok (.bipush 11, 2) := by decide +kernel
theorem dL_refuses_498 : decode cL_refuses 498 = .ok (.iload 9, 2) := by decide +kernel
theorem dL_refuses_500 : decode cL_refuses 500 = .ok (.iconst 0, 1) := by decide +kernel
theorem dL_refuses_501 : decode cL_refuses 501 = .ok (.iconst 0, 1) := by decide +kernel
theorem dL_refuses_502 : decode cL_refuses 502 = .ok (.invokestatic 79, 3) := by decide +kernel
theorem dL_refuses_505 : decode cL_refuses 505 = .ok (.bipush (-72), 2) := by decide +kernel
theorem dL_refuses_507 : decode cL_refuses 507 = .ok (.if_icmp .ne 22, 3) := by decide +kernel
theorem dL_refuses_510 : decode cL_refuses 510 = .ok (.aload_n 0, 1) := by decide +kernel
theorem dL_refuses_511 : decode cL_refuses 511 = .ok (.bipush 12, 2) := by decide +kernel
theorem dL_refuses_513 : decode cL_refuses 513 = .ok (.iload 9, 2) := by decide +kernel
theorem dL_refuses_515 : decode cL_refuses 515 = .ok (.iconst 0, 1) := by decide +kernel
theorem dL_refuses_516 : decode cL_refuses 516 = .ok (.iconst 0, 1) := by decide +kernel
theorem dL_refuses_517 : decode cL_refuses 517 = .ok (.invokestatic 79, 3) := by decide +kernel
theorem dL_refuses_520 : decode cL_refuses 520 = .ok (.bipush (-72), 2) := by decide +kernel
theorem dL_refuses_522 : decode cL_refuses 522 = .ok (.if_icmp .ne 7, 3) := by decide +kernel
theorem dL_refuses_525 : decode cL_refuses 525 = .ok (.iconst 1, 1) := by decide +kernel
theorem dL_refuses_526 : decode cL_refuses 526 = .ok (.goto 4, 3) := by decide +kernel
theorem dL_refuses_529 : decode cL_refuses 529 = .ok (.iconst 0, 1) := by decide +kernel
theorem dL_refuses_530 : decode cL_refuses 530 = .ok (.istore 13, 2) := by decide +kernel
theorem dL_refuses_532 : decode cL_refuses 532 = .ok (.iload 13, 2) := by decide +kernel
theorem dL_refuses_534 : decode cL_refuses 534 = .ok (.ifCond .eq 55, 3) := by decide +kernel
theorem dL_refuses_537 : decode cL_refuses 537 = .ok (.iload_n 1, 1) := by decide +kernel
theorem dL_refuses_538 : decode cL_refuses 538 = .ok (.ifCond .eq 47, 3) := by decide +kernel
theorem dL_refuses_541 : decode cL_refuses 541 = .ok (.aload_n 0, 1) := by decide +kernel
theorem dL_refuses_542 : decode cL_refuses 542 = .ok (.iconst 4, 1) := by decide +kernel
theorem dL_refuses_543 : decode cL_refuses 543 = .ok (.iconst 0, 1) := by decide +kernel
theorem dL_refuses_544 : decode cL_refuses 544 = .ok (.iload 9, 2) := by decide +kernel
theorem dL_refuses_546 : decode cL_refuses 546 = .ok (.iconst 0, 1) := by decide +kernel
theorem dL_refuses_547 : decode cL_refuses 547 = .ok (.invokestatic 79, 3) := by decide +kernel
theorem dL_refuses_550 : decode cL_refuses 550 = .ok (.bipush (-72), 2) := by decide +kernel
theorem dL_refuses_552 : decode cL_refuses 552 = .ok (.if_icmp .ne 37, 3) := by decide +kernel
theorem dL_refuses_555 : decode cL_refuses 555 = .ok (.aload_n 0, 1) := by decide +kernel
theorem dL_refuses_556 : decode cL_refuses 556 = .ok (.bipush 6, 2) := by decide +kernel
theorem dL_refuses_558 : decode cL_refuses 558 = .ok (.iconst 0, 1) := by decide +kernel
theorem dL_refuses_559 : decode cL_refuses 559 = .ok (.iload 9, 2) := by decide +kernel
theorem dL_refuses_561 : decode cL_refuses 561 = .ok (.iconst 0, 1) := by decide +kernel
theorem dL_refuses_562 : decode cL_refuses 562 = .ok (.invokestatic 79, 3) := by decide +kernel
theorem dL_refuses_565 : decode cL_refuses 565 = .ok (.bipush (-72), 2) := by decide +kernel
theorem dL_refuses_567 : decode cL_refuses 567 = .ok (.if_icmp .ne 22, 3) := by decide +kernel
theorem dL_refuses_570 : decode cL_refuses 570 = .ok (.aload_n 0, 1) := by decide +kernel
theorem dL_refuses_571 : decode cL_refuses 571 = .ok (.bipush 8, 2) := by decide +kernel
theorem dL_refuses_573 : decode cL_refuses 573 = .ok (.iconst 0, 1) := by decide +kernel
theorem dL_refuses_574 : decode cL_refuses 574 = .ok (.iload 8, 2) := by decide +kernel
theorem dL_refuses_576 : decode cL_refuses 576 = .ok (.iconst 0, 1) := by decide +kernel
theorem dL_refuses_577 : decode cL_refuses 577 = .ok (.invokestatic 79, 3) := by decide +kernel
theorem dL_refuses_580 : decode cL_refuses 580 = .ok (.bipush (-71), 2) := by decide +kernel
theorem dL_refuses_582 : decode cL_refuses 582 = .ok (.if_icmp .ne 7, 3) := by decide +kernel
theorem dL_refuses_585 : decode cL_refuses 585 = .ok (.iconst 1, 1) := by decide +kernel
theorem dL_refuses_586 : decode cL_refuses 586 = .ok (.goto 4, 3) := by decide +kernel
theorem dL_refuses_589 : decode cL_refuses 589 = .ok (.iconst 0, 1) := by decide +kernel
theorem dL_refuses_590 : decode cL_refuses 590 = .ok (.istore 13, 2) := by decide +kernel
theorem dL_refuses_592 : decode cL_refuses 592 = .ok (.iconst 0, 1) := by decide +kernel
theorem dL_refuses_593 : decode cL_refuses 593 = .ok (.istore 14, 2) := by decide +kernel
theorem dL_refuses_595 : decode cL_refuses 595 = .ok (.iload 14, 2) := by decide +kernel
theorem dL_refuses_597 : decode cL_refuses 597 = .ok (.iconst 2, 1) := by decide +kernel
theorem dL_refuses_598 : decode cL_refuses 598 = .ok (.if_icmp .ge 175, 3) := by decide +kernel
theorem dL_refuses_601 : decode cL_refuses 601 = .ok (.iload 14, 2) := by decide +kernel
theorem dL_refuses_603 : decode cL_refuses 603 = .ok (.ifCond .ne 7, 3) := by decide +kernel
theorem dL_refuses_606 : decode cL_refuses 606 = .ok (.iconst 1, 1) := by decide +kernel
theorem dL_refuses_607 : decode cL_refuses 607 = .ok (.goto 4, 3) := by decide +kernel
theorem dL_refuses_610 : decode cL_refuses 610 = .ok (.iconst 0, 1) := by decide +kernel
theorem dL_refuses_611 : decode cL_refuses 611 = .ok (.istore 15, 2) := by decide +kernel
theorem dL_refuses_613 : decode cL_refuses 613 = .ok (.iload 13, 2) := by decide +kernel
theorem dL_refuses_615 : decode cL_refuses 615 = .ok (.ifCond .eq 149, 3) := by decide +kernel
theorem dL_refuses_618 : decode cL_refuses 618 = .ok (.aload_n 0, 1) := by decide +kernel
theorem dL_refuses_619 : decode cL_refuses 619 = .ok (.iload 15, 2) := by decide +kernel
theorem dL_refuses_621 : decode cL_refuses 621 = .ok (.iload 8, 2) := by decide +kernel
theorem dL_refuses_623 : decode cL_refuses 623 = .ok (.iconst (-1), 1) := by decide +kernel
theorem dL_refuses_624 : decode cL_refuses 624 = .ok (.iconst 5, 1) := by decide +kernel
theorem dL_refuses_625 : decode cL_refuses 625 = .ok (.iconst 0, 1) := by decide +kernel
theorem dL_refuses_626 : decode cL_refuses 626 = .ok (.iconst 5, 1) := by decide +kernel
theorem dL_refuses_627 : decode cL_refuses 627 = .ok (.iconst 5, 1) := by decide +kernel
theorem dL_refuses_628 : decode cL_refuses 628 = .ok (.iconst 5, 1) := by decide +kernel
theorem dL_refuses_629 : decode cL_refuses 629 = .ok (.invokestatic 88, 3) := by decide +kernel
theorem dL_refuses_632 : decode cL_refuses 632 = .ok (.bipush (-71), 2) := by decide +kernel
theorem dL_refuses_634 : decode cL_refuses 634 = .ok (.if_icmp .ne 130, 3) := by decide +kernel
theorem dL_refuses_637 : decode cL_refuses 637 = .ok (.aload_n 0, 1) := by decide +kernel
theorem dL_refuses_638 : decode cL_refuses 638 = .ok (.iload 15, 2) := by decide +kernel
theorem dL_refuses_640 : decode cL_refuses 640 = .ok (.iconst 0, 1) := by decide +kernel
theorem dL_refuses_641 : decode cL_refuses 641 = .ok (.iconst (-1), 1) := by decide +kernel
theorem dL_refuses_642 : decode cL_refuses 642 = .ok (.iconst 5, 1) := by decide +kernel
theorem dL_refuses_643 : decode cL_refuses 643 = .ok (.iload 8, 2) := by decide +kernel
theorem dL_refuses_645 : decode cL_refuses 645 = .ok (.iconst 5, 1) := by decide +kernel
theorem dL_refuses_646 : decode cL_refuses 646 = .ok (.iconst 5, 1) := by decide +kernel
theorem dL_refuses_647 : decode cL_refuses 647 = .ok (.iconst 5, 1) := by decide +kernel
theorem dL_refuses_648 : decode cL_refuses 648 = .ok (.invokestatic 88, 3) := by decide +kernel
theorem dL_refuses_651 : decode cL_refuses 651 = .ok (.bipush (-71), 2) := by decide +kernel
theorem dL_refuses_653 : decode cL_refuses 653 = .ok (.if_icmp .ne 111, 3) := by decide +kernel
theorem dL_refuses_656 : decode cL_refuses 656 = .ok (.aload_n 0, 1) := by decide +kernel
theorem dL_refuses_657 : decode cL_refuses 657 = .ok (.iload 15, 2) := by decide +kernel
theorem dL_refuses_659 : decode cL_refuses 659 = .ok (.iconst 0, 1) := by decide +kernel
theorem dL_refuses_660 : decode cL_refuses 660 = .ok (.iload 9, 2) := by decide +kernel
theorem dL_refuses_662 : decode cL_refuses 662 = .ok (.iconst 5, 1) := by decide +kernel
theorem dL_refuses_663 : decode cL_refuses 663 = .ok (.iconst 0, 1) := by decide +kernel
theorem dL_refuses_664 : decode cL_refuses 664 = .ok (.iconst 5, 1) := by decide +kernel
theorem dL_refuses_665 : decode cL_refuses 665 = .ok (.iconst 5, 1) := by decide +kernel
theorem dL_refuses_666 : decode cL_refuses 666 = .ok (.iconst 5, 1) := by decide +kernel
theorem dL_refuses_667 : decode cL_refuses 667 = .ok (.invokestatic 88, 3) := by decide +kernel
theorem dL_refuses_670 : decode cL_refuses 670 = .ok (.bipush (-72), 2) := by decide +kernel
theorem dL_refuses_672 : decode cL_refuses 672 = .ok (.if_icmp .ne 92, 3) := by decide +kernel
theorem dL_refuses_675 : decode cL_refuses 675 = .ok (.aload_n 0, 1) := by decide +kernel
theorem dL_refuses_676 : decode cL_refuses 676 = .ok (.iload 15, 2) := by decide +kernel
theorem dL_refuses_678 : decode cL_refuses 678 = .ok (.iconst 0, 1) := by decide +kernel
theorem dL_refuses_679 : decode cL_refuses 679 = .ok (.iconst 5, 1) := by decide +kernel
theorem dL_refuses_680 : decode cL_refuses 680 = .ok (.iload 6, 2) := by decide +kernel
theorem dL_refuses_682 : decode cL_refuses 682 = .ok (.ifCond .ne 7, 3) := by decide +kernel
theorem dL_refuses_685 : decode cL_refuses 685 = .ok (.iconst 0, 1) := by decide +kernel
theorem dL_refuses_686 : decode cL_refuses 686 = .ok (.goto 5, 3) := by decide +kernel
theorem dL_refuses_689 : decode cL_refuses 689 = .ok (.iload 10, 2) := by decide +kernel
theorem dL_refuses_691 : decode cL_refuses 691 = .ok (.iconst 0, 1) := by decide +kernel
theorem dL_refuses_692 : decode cL_refuses 692 = .ok (.iconst 5, 1) := by decide +kernel
theorem dL_refuses_693 : decode cL_refuses 693 = .ok (.iconst 5, 1) := by decide +kernel
theorem dL_refuses_694 : decode cL_refuses 694 = .ok (.iconst 5, 1) := by decide +kernel
theorem dL_refuses_695 : decode cL_refuses 695 = .ok (.invokestatic 88, 3) := by decide +kernel
theorem dL_refuses_698 : decode cL_refuses 698 = .ok (.bipush (-72), 2) := by decide +kernel
theorem dL_refuses_700 : decode cL_refuses 700 = .ok (.if_icmp .ne 64, 3) := by decide +kernel
theorem dL_refuses_703 : decode cL_refuses 703 = .ok (.aload_n 0, 1) := by decide +kernel
theorem dL_refuses_704 : decode cL_refuses 704 = .ok (.iload 15, 2) := by decide +kernel
theorem dL_refuses_706 : decode cL_refuses 706 = .ok (.iconst 0, 1) := by decide +kernel
theorem dL_refuses_707 : decode cL_refuses 707 = .ok (.iconst 5, 1) := by decide +kernel
theorem dL_refuses_708 : decode cL_refuses 708 = .ok (.iconst 5, 1) := by decide +kernel
theorem dL_refuses_709 : decode cL_refuses 709 = .ok (.iconst 0, 1) := by decide +kernel
theorem dL_refuses_710 : decode cL_refuses 710 = .ok (.iload 10, 2) := by decide +kernel
theorem dL_refuses_712 : decode cL_refuses 712 = .ok (.iconst 5, 1) := by decide +kernel
theorem dL_refuses_713 : decode cL_refuses 713 = .ok (.iconst 5, 1) := by decide +kernel
theorem dL_refuses_714 : decode cL_refuses 714 = .ok (.invokestatic 88, 3) := by decide +kernel
theorem dL_refuses_717 : decode cL_refuses 717 = .ok (.bipush (-72), 2) := by decide +kernel
theorem dL_refuses_719 : decode cL_refuses 719 = .ok (.if_icmp .ne 45, 3) := by decide +kernel
theorem dL_refuses_722 : decode cL_refuses 722 = .ok (.aload_n 0, 1) := by decide +kernel
theorem dL_refuses_723 : decode cL_refuses 723 = .ok (.iload 15, 2) := by decide +kernel
theorem dL_refuses_725 : decode cL_refuses 725 = .ok (.iconst 0, 1) := by decide +kernel
theorem dL_refuses_726 : decode cL_refuses 726 = .ok (.iconst 5, 1) := by decide +kernel
theorem dL_refuses_727 : decode cL_refuses 727 = .ok (.iconst 5, 1) := by decide +kernel
theorem dL_refuses_728 : decode cL_refuses 728 = .ok (.iconst 0, 1) := by decide +kernel
theorem dL_refuses_729 : decode cL_refuses 729 = .ok (.iconst 5, 1) := by decide +kernel
theorem dL_refuses_730 : decode cL_refuses 730 = .ok (.iload 10, 2) := by decide +kernel
theorem dL_refuses_732 : decode cL_refuses 732 = .ok (.iconst 5, 1) := by decide +kernel
theorem dL_refuses_733 : decode cL_refuses 733 = .ok (.invokestatic 88, 3) := by decide +kernel
theorem dL_refuses_736 : decode cL_refuses 736 = .ok (.bipush (-72), 2) := by decide +kernel
theorem dL_refuses_738 : decode cL_refuses 738 = .ok (.if_icmp .ne 26, 3) := by decide +kernel
theorem dL_refuses_741 : decode cL_refuses 741 = .ok (.aload_n 0, 1) := by decide +kernel
theorem dL_refuses_742 : decode cL_refuses 742 = .ok (.iload 15, 2) := by decide +kernel
theorem dL_refuses_744 : decode cL_refuses 744 = .ok (.iconst 0, 1) := by decide +kernel
theorem dL_refuses_745 : decode cL_refuses 745 = .ok (.iconst 5, 1) := by decide +kernel
theorem dL_refuses_746 : decode cL_refuses 746 = .ok (.iconst 5, 1) := by decide +kernel
theorem dL_refuses_747 : decode cL_refuses 747 = .ok (.iconst 0, 1) := by decide +kernel
theorem dL_refuses_748 : decode cL_refuses 748 = .ok (.iconst 5, 1) := by decide +kernel
theorem dL_refuses_749 : decode cL_refuses 749 = .ok (.iconst 5, 1) := by decide +kernel
theorem dL_refuses_750 : decode cL_refuses 750 = .ok (.iload 12, 2) := by decide +kernel
theorem dL_refuses_752 : decode cL_refuses 752 = .ok (.invokestatic 88, 3) := by decide +kernel
theorem dL_refuses_755 : decode cL_refuses 755 = .ok (.bipush (-72), 2) := by decide +kernel
theorem dL_refuses_757 : decode cL_refuses 757 = .ok (.if_icmp .ne 7, 3) := by decide +kernel
theorem dL_refuses_760 : decode cL_refuses 760 = .ok (.iconst 1, 1) := by decide +kernel
theorem dL_refuses_761 : decode cL_refuses 761 = .ok (.goto 4, 3) := by decide +kernel
theorem dL_refuses_764 : decode cL_refuses 764 = .ok (.iconst 0, 1) := by decide +kernel
theorem dL_refuses_765 : decode cL_refuses 765 = .ok (.istore 13, 2) := by decide +kernel
theorem dL_refuses_767 : decode cL_refuses 767 = .ok (.iinc 14 1, 3) := by decide +kernel
theorem dL_refuses_770 : decode cL_refuses 770 = .ok (.goto (-175), 3) := by decide +kernel
theorem dL_refuses_773 : decode cL_refuses 773 = .ok (.iload 13, 2) := by decide +kernel
theorem dL_refuses_775 : decode cL_refuses 775 = .ok (.ifCond .eq 46, 3) := by decide +kernel
theorem dL_refuses_778 : decode cL_refuses 778 = .ok (.aload_n 0, 1) := by decide +kernel
theorem dL_refuses_779 : decode cL_refuses 779 = .ok (.iload 6, 2) := by decide +kernel
theorem dL_refuses_781 : decode cL_refuses 781 = .ok (.ifCond .ne 8, 3) := by decide +kernel
theorem dL_refuses_784 : decode cL_refuses 784 = .ok (.bipush 96, 2) := by decide +kernel
theorem dL_refuses_786 : decode cL_refuses 786 = .ok (.goto 26, 3) := by decide +kernel
theorem dL_refuses_789 : decode cL_refuses 789 = .ok (.iload 6, 2) := by decide +kernel
theorem dL_refuses_791 : decode cL_refuses 791 = .ok (.iconst 1, 1) := by decide +kernel
theorem dL_refuses_792 : decode cL_refuses 792 = .ok (.if_icmp .ne 8, 3) := by decide +kernel
theorem dL_refuses_795 : decode cL_refuses 795 = .ok (.bipush 123, 2) := by decide +kernel
theorem dL_refuses_797 : decode cL_refuses 797 = .ok (.goto 15, 3) := by decide +kernel
theorem dL_refuses_800 : decode cL_refuses 800 = .ok (.iload 6, 2) := by decide +kernel
theorem dL_refuses_802 : decode cL_refuses 802 = .ok (.iconst 2, 1) := by decide +kernel
theorem dL_refuses_803 : decode cL_refuses 803 = .ok (.if_icmp .ne 8, 3) := by decide +kernel
theorem dL_refuses_806 : decode cL_refuses 806 = .ok (.ldc 91, 2) := by decide +kernel
theorem dL_refuses_808 : decode cL_refuses 808 = .ok (.goto 4, 3) := by decide +kernel
theorem dL_refuses_811 : decode cL_refuses 811 = .ok (.iconst 0, 1) := by decide +kernel
theorem dL_refuses_812 : decode cL_refuses 812 = .ok (.i2c, 1) := by decide +kernel
theorem dL_refuses_813 : decode cL_refuses 813 = .ok (.invokestatic 92, 3) := by decide +kernel
theorem dL_refuses_816 : decode cL_refuses 816 = .ok (.bipush (-72), 2) := by decide +kernel
theorem dL_refuses_818 : decode cL_refuses 818 = .ok (.if_icmp .eq 5, 3) := by decide +kernel
theorem dL_refuses_821 : decode cL_refuses 821 = .ok (.iconst 0, 1) := by decide +kernel
theorem dL_refuses_822 : decode cL_refuses 822 = .ok (.ireturn, 1) := by decide +kernel
theorem dL_refuses_823 : decode cL_refuses 823 = .ok (.iinc 6 1, 3) := by decide +kernel
theorem dL_refuses_826 : decode cL_refuses 826 = .ok (.goto (-798), 3) := by decide +kernel
theorem dL_refuses_829 : decode cL_refuses 829 = .ok (.aload_n 0, 1) := by decide +kernel
theorem dL_refuses_830 : decode cL_refuses 830 = .ok (.iconst 0, 1) := by decide +kernel
theorem dL_refuses_831 : decode cL_refuses 831 = .ok (.iconst 0, 1) := by decide +kernel
theorem dL_refuses_832 : decode cL_refuses 832 = .ok (.invokevirtual 65, 3) := by decide +kernel
theorem dL_refuses_835 : decode cL_refuses 835 = .ok (.iload_n 2, 1) := by decide +kernel
theorem dL_refuses_836 : decode cL_refuses 836 = .ok (.if_icmp .ne 27, 3) := by decide +kernel
theorem dL_refuses_839 : decode cL_refuses 839 = .ok (.aload_n 0, 1) := by decide +kernel
theorem dL_refuses_840 : decode cL_refuses 840 = .ok (.sipush 500, 3) := by decide +kernel
theorem dL_refuses_843 : decode cL_refuses 843 = .ok (.invokevirtual 71, 3) := by decide +kernel
theorem dL_refuses_846 : decode cL_refuses 846 = .ok (.iload_n 3, 1) := by decide +kernel
theorem dL_refuses_847 : decode cL_refuses 847 = .ok (.if_icmp .ne 16, 3) := by decide +kernel
theorem dL_refuses_850 : decode cL_refuses 850 = .ok (.aload_n 0, 1) := by decide +kernel
theorem dL_refuses_851 : decode cL_refuses 851 = .ok (.invokevirtual 74, 3) := by decide +kernel
theorem dL_refuses_854 : decode cL_refuses 854 = .ok (.iload 4, 2) := by decide +kernel
theorem dL_refuses_856 : decode cL_refuses 856 = .ok (.if_icmp .ne 7, 3) := by decide +kernel
theorem dL_refuses_859 : decode cL_refuses 859 = .ok (.iconst 1, 1) := by decide +kernel
theorem dL_refuses_860 : decode cL_refuses 860 = .ok (.goto 4, 3) := by decide +kernel
theorem dL_refuses_863 : decode cL_refuses 863 = .ok (.iconst 0, 1) := by decide +kernel
theorem dL_refuses_864 : decode cL_refuses 864 = .ok (.ireturn, 1) := by decide +kernel
theorem dL_types_0 : decode cL_types 0 = .ok (.aload_n 0, 1) := by decide +kernel
theorem dL_types_1 : decode cL_types 1 = .ok (.invokevirtual 95, 3) := by decide +kernel
theorem dL_types_4 : decode cL_types 4 = .ok (.istore 6, 2) := by decide +kernel
theorem dL_types_6 : decode cL_types 6 = .ok (.iload 6, 2) := by decide +kernel
theorem dL_types_8 : decode cL_types 8 = .ok (.ifCond .lt 50, 3) := by decide +kernel
theorem dL_types_11 : decode cL_types 11 = .ok (.aload_n 0, 1) := by decide +kernel
theorem dL_types_12 : decode cL_types 12 = .ok (.iload_n 1, 1) := by decide +kernel
theorem dL_types_13 : decode cL_types 13 = .ok (.invokevirtual 26, 3) := by decide +kernel
theorem dL_types_16 : decode cL_types 16 = .ok (.iconst 1, 1) := by decide +kernel
theorem dL_types_17 : decode cL_types 17 = .ok (.if_icmp .ne 41, 3) := by decide +kernel
theorem dL_types_20 : decode cL_types 20 = .ok (.aload_n 0, 1) := by decide +kernel
theorem dL_types_21 : decode cL_types 21 = .ok (.iload_n 2, 1) := by decide +kernel
theorem dL_types_22 : decode cL_types 22 = .ok (.invokevirtual 26, 3) := by decide +kernel
theorem dL_types_25 : decode cL_types 25 = .ok (.iconst 2, 1) := by decide +kernel
theorem dL_types_26 : decode cL_types 26 = .ok (.if_icmp .ne 32, 3) := by decide +kernel
theorem dL_types_29 : decode cL_types 29 = .ok (.aload_n 0, 1) := by decide +kernel
theorem dL_types_30 : decode cL_types 30 = .ok (.iload_n 3, 1) := by decide +kernel
theorem dL_types_31 : decode cL_types 31 = .ok (.invokevirtual 26, 3) := by decide +kernel
theorem dL_types_34 : decode cL_types 34 = .ok (.iconst 3, 1) := by decide +kernel
theorem dL_types_35 : decode cL_types 35 = .ok (.if_icmp .ne 23, 3) := by decide +kernel
theorem dL_types_38 : decode cL_types 38 = .ok (.iload 5, 2) := by decide +kernel
theorem dL_types_40 : decode cL_types 40 = .ok (.iconst 4, 1) := by decide +kernel
theorem dL_types_41 : decode cL_types 41 = .ok (.if_icmp .lt 13, 3) := by decide +kernel
theorem dL_types_44 : decode cL_types 44 = .ok (.aload_n 0, 1) := by decide +kernel
theorem dL_types_45 : decode cL_types 45 = .ok (.iload 4, 2) := by decide +kernel
theorem dL_types_47 : decode cL_types 47 = .ok (.invokevirtual 26, 3) := by decide +kernel
theorem dL_types_50 : decode cL_types 50 = .ok (.iconst 4, 1) := by decide +kernel
theorem dL_types_51 : decode cL_types 51 = .ok (.if_icmp .ne 7, 3) := by decide +kernel
theorem dL_types_54 : decode cL_types 54 = .ok (.iconst 1, 1) := by decide +kernel
theorem dL_types_55 : decode cL_types 55 = .ok (.goto 4, 3) := by decide +kernel
theorem dL_types_58 : decode cL_types 58 = .ok (.iconst 0, 1) := by decide +kernel
theorem dL_types_59 : decode cL_types 59 = .ok (.ireturn, 1) := by decide +kernel
theorem dL_has_0 : decode cL_has 0 = .ok (.aload_n 0, 1) := by decide +kernel
theorem dL_has_1 : decode cL_has 1 = .ok (.iload_n 1, 1) := by decide +kernel
theorem dL_has_2 : decode cL_has 2 = .ok (.iconst 0, 1) := by decide +kernel
theorem dL_has_3 : decode cL_has 3 = .ok (.invokevirtual 58, 3) := by decide +kernel
theorem dL_has_6 : decode cL_has 6 = .ok (.iload_n 2, 1) := by decide +kernel
theorem dL_has_7 : decode cL_has 7 = .ok (.if_icmp .ne 28, 3) := by decide +kernel
theorem dL_has_10 : decode cL_has 10 = .ok (.aload_n 0, 1) := by decide +kernel
theorem dL_has_11 : decode cL_has 11 = .ok (.iload_n 1, 1) := by decide +kernel
theorem dL_has_12 : decode cL_has 12 = .ok (.iconst 1, 1) := by decide +kernel
theorem dL_has_13 : decode cL_has 13 = .ok (.invokevirtual 58, 3) := by decide +kernel
theorem dL_has_16 : decode cL_has 16 = .ok (.iload_n 3, 1) := by decide +kernel
theorem dL_has_17 : decode cL_has 17 = .ok (.if_icmp .ne 18, 3) := by decide +kernel
theorem dL_has_20 : decode cL_has 20 = .ok (.aload_n 0, 1) := by decide +kernel
theorem dL_has_21 : decode cL_has 21 = .ok (.iload_n 1, 1) := by decide +kernel
theorem dL_has_22 : decode cL_has 22 = .ok (.iconst 2, 1) := by decide +kernel
theorem dL_has_23 : decode cL_has 23 = .ok (.invokevirtual 58, 3) := by decide +kernel
theorem dL_has_26 : decode cL_has 26 = .ok (.iload 4, 2) := by decide +kernel
theorem dL_has_28 : decode cL_has 28 = .ok (.if_icmp .ne 7, 3) := by decide +kernel
theorem dL_has_31 : decode cL_has 31 = .ok (.iconst 1, 1) := by decide +kernel
theorem dL_has_32 : decode cL_has 32 = .ok (.goto 4, 3) := by decide +kernel
theorem dL_has_35 : decode cL_has 35 = .ok (.iconst 0, 1) := by decide +kernel
theorem dL_has_36 : decode cL_has 36 = .ok (.ireturn, 1) := by decide +kernel
theorem dL_grid_0 : decode cL_grid 0 = .ok (.new 8, 3) := by decide +kernel
theorem dL_grid_3 : decode cL_grid 3 = .ok (.dup, 1) := by decide +kernel
theorem dL_grid_4 : decode cL_grid 4 = .ok (.invokespecial 99, 3) := by decide +kernel
theorem dL_grid_7 : decode cL_grid 7 = .ok (.astore_n 0, 1) := by decide +kernel
theorem dL_grid_8 : decode cL_grid 8 = .ok (.aload_n 0, 1) := by decide +kernel
theorem dL_grid_9 : decode cL_grid 9 = .ok (.invokevirtual 74, 3) := by decide +kernel
theorem dL_grid_12 : decode cL_grid 12 = .ok (.ifCond .eq 466, 3) := by decide +kernel
theorem dL_grid_15 : decode cL_grid 15 = .ok (.aload_n 0, 1) := by decide +kernel
theorem dL_grid_16 : decode cL_grid 16 = .ok (.sipush 999, 3) := by decide +kernel
theorem dL_grid_19 : decode cL_grid 19 = .ok (.iconst 2, 1) := by decide +kernel
theorem dL_grid_20 : decode cL_grid 20 = .ok (.invokevirtual 65, 3) := by decide +kernel
theorem dL_grid_23 : decode cL_grid 23 = .ok (.ifCond .ne 455, 3) := by decide +kernel
theorem dL_grid_26 : decode cL_grid 26 = .ok (.aload_n 0, 1) := by decide +kernel
theorem dL_grid_27 : decode cL_grid 27 = .ok (.iconst 0, 1) := by decide +kernel
theorem dL_grid_28 : decode cL_grid 28 = .ok (.iconst 0, 1) := by decide +kernel
theorem dL_grid_29 : decode cL_grid 29 = .ok (.invokevirtual 68, 3) := by decide +kernel
theorem dL_grid_32 : decode cL_grid 32 = .ok (.ifCond .ne 446, 3) := by decide +kernel
theorem dL_grid_35 : decode cL_grid 35 = .ok (.aload_n 0, 1) := by decide +kernel
theorem dL_grid_36 : decode cL_grid 36 = .ok (.iconst 0, 1) := by decide +kernel
theorem dL_grid_37 : decode cL_grid 37 = .ok (.invokevirtual 71, 3) := by decide +kernel
theorem dL_grid_40 : decode cL_grid 40 = .ok (.ifCond .ne 438, 3) := by decide +kernel
theorem dL_grid_43 : decode cL_grid 43 = .ok (.aload_n 0, 1) := by decide +kernel
theorem dL_grid_44 : decode cL_grid 44 = .ok (.iconst 0, 1) := by decide +kernel
theorem dL_grid_45 : decode cL_grid 45 = .ok (.invokestatic 100, 3) := by decide +kernel
theorem dL_grid_48 : decode cL_grid 48 = .ok (.ifCond .eq 430, 3) := by decide +kernel
theorem dL_grid_51 : decode cL_grid 51 = .ok (.aload_n 0, 1) := by decide +kernel
theorem dL_grid_52 : decode cL_grid 52 = .ok (.iconst 1, 1) := by decide +kernel
theorem dL_grid_53 : decode cL_grid 53 = .ok (.iconst 0, 1) := by decide +kernel
theorem dL_grid_54 : decode cL_grid 54 = .ok (.bipush 100, 2) := by decide +kernel
theorem dL_grid_56 : decode cL_grid 56 = .ok (.bipush 50, 2) := by decide +kernel
theorem dL_grid_58 : decode cL_grid 58 = .ok (.iconst 0, 1) := by decide +kernel
theorem dL_grid_59 : decode cL_grid 59 = .ok (.bipush 80, 2) := by decide +kernel
theorem dL_grid_61 : decode cL_grid 61 = .ok (.iconst 0, 1) := by decide +kernel
theorem dL_grid_62 : decode cL_grid 62 = .ok (.iconst (-1), 1) := by decide +kernel
theorem dL_grid_63 : decode cL_grid 63 = .ok (.invokestatic 88, 3) := by decide +kernel
theorem dL_grid_66 : decode cL_grid 66 = .ok (.iconst 2, 1) := by decide +kernel
theorem dL_grid_67 : decode cL_grid 67 = .ok (.if_icmp .ne 411, 3) := by decide +kernel
theorem dL_grid_70 : decode cL_grid 70 = .ok (.aload_n 0, 1) := by decide +kernel
theorem dL_grid_71 : decode cL_grid 71 = .ok (.iconst 0, 1) := by decide +kernel
theorem dL_grid_72 : decode cL_grid 72 = .ok (.iconst 0, 1) := by decide +kernel
theorem dL_grid_73 : decode cL_grid 73 = .ok (.bipush 100, 2) := by decide +kernel
theorem dL_grid_75 : decode cL_grid 75 = .ok (.bipush 50, 2) := by decide +kernel
theorem dL_grid_77 : decode cL_grid 77 = .ok (.iconst 0, 1) := by decide +kernel
theorem dL_grid_78 : decode cL_grid 78 = .ok (.bipush 80, 2) := by decide +kernel
theorem dL_grid_80 : decode cL_grid 80 = .ok (.iconst 0, 1) := by decide +kernel
theorem dL_grid_81 : decode cL_grid 81 = .ok (.iconst (-1), 1) := by decide +kernel
theorem dL_grid_82 : decode cL_grid 82 = .ok (.invokestatic 88, 3) := by decide +kernel
theorem dL_grid_85 : decode cL_grid 85 = .ok (.iconst (-1), 1) := by decide +kernel
theorem dL_grid_86 : decode cL_grid 86 = .ok (.if_icmp .ne 392, 3) := by decide +kernel
theorem dL_grid_89 : decode cL_grid 89 = .ok (.aload_n 0, 1) := by decide +kernel
theorem dL_grid_90 : decode cL_grid 90 = .ok (.bipush 50, 2) := by decide +kernel
theorem dL_grid_92 : decode cL_grid 92 = .ok (.invokevirtual 30, 3) := by decide +kernel
theorem dL_grid_95 : decode cL_grid 95 = .ok (.iconst 1, 1) := by decide +kernel
theorem dL_grid_96 : decode cL_grid 96 = .ok (.if_icmp .ne 382, 3) := by decide +kernel
theorem dL_grid_99 : decode cL_grid 99 = .ok (.aload_n 0, 1) := by decide +kernel
theorem dL_grid_100 : decode cL_grid 100 = .ok (.bipush 59, 2) := by decide +kernel
theorem dL_grid_102 : decode cL_grid 102 = .ok (.invokevirtual 30, 3) := by decide +kernel
theorem dL_grid_105 : decode cL_grid 105 = .ok (.iconst (-1), 1) := by decide +kernel
theorem dL_grid_106 : decode cL_grid 106 = .ok (.if_icmp .ne 372, 3) := by decide +kernel
theorem dL_grid_109 : decode cL_grid 109 = .ok (.aload_n 0, 1) := by decide +kernel
theorem dL_grid_110 : decode cL_grid 110 = .ok (.bipush 41, 2) := by decide +kernel
theorem dL_grid_112 : decode cL_grid 112 = .ok (.invokevirtual 30, 3) := by decide +kernel
theorem dL_grid_115 : decode cL_grid 115 = .ok (.iconst (-1), 1) := by decide +kernel
theorem dL_grid_116 : decode cL_grid 116 = .ok (.if_icmp .ne 362, 3) := by decide +kernel
theorem dL_grid_119 : decode cL_grid 119 = .ok (.aload_n 0, 1) := by decide +kernel
theorem dL_grid_120 : decode cL_grid 120 = .ok (.bipush 60, 2) := by decide +kernel
theorem dL_grid_122 : decode cL_grid 122 = .ok (.invokevirtual 30, 3) := by decide +kernel
theorem dL_grid_125 : decode cL_grid 125 = .ok (.iconst 2, 1) := by decide +kernel
theorem dL_grid_126 : decode cL_grid 126 = .ok (.if_icmp .ne 352, 3) := by decide +kernel
theorem dL_grid_129 : decode cL_grid 129 = .ok (.aload_n 0, 1) := by decide +kernel
theorem dL_grid_130 : decode cL_grid 130 = .ok (.iconst 0, 1) := by decide +kernel
theorem dL_grid_131 : decode cL_grid 131 = .ok (.bipush 100, 2) := by decide +kernel
theorem dL_grid_133 : decode cL_grid 133 = .ok (.bipush 50, 2) := by decide +kernel
theorem dL_grid_135 : decode cL_grid 135 = .ok (.iconst 0, 1) := by decide +kernel
theorem dL_grid_136 : decode cL_grid 136 = .ok (.sipush 200, 3) := by decide +kernel
theorem dL_grid_139 : decode cL_grid 139 = .ok (.iconst 0, 1) := by decide +kernel
theorem dL_grid_140 : decode cL_grid 140 = .ok (.iconst (-1), 1) := by decide +kernel
theorem dL_grid_141 : decode cL_grid 141 = .ok (.invokevirtual 13, 3) := by decide +kernel
theorem dL_grid_144 : decode cL_grid 144 = .ok (.ifCond .ne 334, 3) := by decide +kernel
theorem dL_grid_147 : decode cL_grid 147 = .ok (.aload_n 0, 1) := by decide +kernel
theorem dL_grid_148 : decode cL_grid 148 = .ok (.bipush 100, 2) := by decide +kernel
theorem dL_grid_150 : decode cL_grid 150 = .ok (.iconst 0, 1) := by decide +kernel
theorem dL_grid_151 : decode cL_grid 151 = .ok (.invokevirtual 65, 3) := by decide +kernel
theorem dL_grid_154 : decode cL_grid 154 = .ok (.sipush 200, 3) := by decide +kernel
theorem dL_grid_157 : decode cL_grid 157 = .ok (.if_icmp .ne 321, 3) := by decide +kernel
theorem dL_grid_160 : decode cL_grid 160 = .ok (.aload_n 0, 1) := by decide +kernel
theorem dL_grid_161 : decode cL_grid 161 = .ok (.sipush 149, 3) := by decide +kernel
theorem dL_grid_164 : decode cL_grid 164 = .ok (.iconst 0, 1) := by decide +kernel
theorem dL_grid_165 : decode cL_grid 165 = .ok (.invokevirtual 65, 3) := by decide +kernel
theorem dL_grid_168 : decode cL_grid 168 = .ok (.sipush 200, 3) := by decide +kernel
theorem dL_grid_171 : decode cL_grid 171 = .ok (.if_icmp .ne 307, 3) := by decide +kernel
theorem dL_grid_174 : decode cL_grid 174 = .ok (.aload_n 0, 1) := by decide +kernel
theorem dL_grid_175 : decode cL_grid 175 = .ok (.sipush 150, 3) := by decide +kernel
theorem dL_grid_178 : decode cL_grid 178 = .ok (.iconst 0, 1) := by decide +kernel
theorem dL_grid_179 : decode cL_grid 179 = .ok (.invokevirtual 65, 3) := by decide +kernel
theorem dL_grid_182 : decode cL_grid 182 = .ok (.ifCond .ne 296, 3) := by decide +kernel
theorem dL_grid_185 : decode cL_grid 185 = .ok (.aload_n 0, 1) := by decide +kernel
theorem dL_grid_186 : decode cL_grid 186 = .ok (.bipush 100, 2) := by decide +kernel
theorem dL_grid_188 : decode cL_grid 188 = .ok (.iconst 1, 1) := by decide +kernel
theorem dL_grid_189 : decode cL_grid 189 = .ok (.invokevirtual 65, 3) := by decide +kernel
theorem dL_grid_192 : decode cL_grid 192 = .ok (.ifCond .ne 286, 3) := by decide +kernel
theorem dL_grid_195 : decode cL_grid 195 = .ok (.aload_n 0, 1) := by decide +kernel
theorem dL_grid_196 : decode cL_grid 196 = .ok (.iconst 1, 1) := by decide +kernel
theorem dL_grid_197 : decode cL_grid 197 = .ok (.iconst 1, 1) := by decide +kernel
theorem dL_grid_198 : decode cL_grid 198 = .ok (.sipush 149, 3) := by decide +kernel
theorem dL_grid_201 : decode cL_grid 201 = .ok (.iconst 5, 1) := by decide +kernel
theorem dL_grid_202 : decode cL_grid 202 = .ok (.iconst 0, 1) := by decide +kernel
theorem dL_grid_203 : decode cL_grid 203 = .ok (.iconst 1, 1) := by decide +kernel
theorem dL_grid_204 : decode cL_grid 204 = .ok (.iconst 0, 1) := by decide +kernel
theorem dL_grid_205 : decode cL_grid 205 = .ok (.iconst (-1), 1) := by decide +kernel
theorem dL_grid_206 : decode cL_grid 206 = .ok (.invokestatic 88, 3) := by decide +kernel
theorem dL_grid_209 : decode cL_grid 209 = .ok (.iconst 2, 1) := by decide +kernel
theorem dL_grid_210 : decode cL_grid 210 = .ok (.if_icmp .ne 268, 3) := by decide +kernel
theorem dL_grid_213 : decode cL_grid 213 = .ok (.aload_n 0, 1) := by decide +kernel
theorem dL_grid_214 : decode cL_grid 214 = .ok (.iconst 1, 1) := by decide +kernel
theorem dL_grid_215 : decode cL_grid 215 = .ok (.iconst 1, 1) := by decide +kernel
theorem dL_grid_216 : decode cL_grid 216 = .ok (.sipush 150, 3) := by decide +kernel
theorem dL_grid_219 : decode cL_grid 219 = .ok (.iconst 5, 1) := by decide +kernel
theorem dL_grid_220 : decode cL_grid 220 = .ok (.iconst 0, 1) := by decide +kernel
theorem dL_grid_221 : decode cL_grid 221 = .ok (.iconst 1, 1) := by decide +kernel
theorem dL_grid_222 : decode cL_grid 222 = .ok (.iconst 0, 1) := by decide +kernel
theorem dL_grid_223 : decode cL_grid 223 = .ok (.iconst (-1), 1) := by decide +kernel
theorem dL_grid_224 : decode cL_grid 224 = .ok (.invokestatic 88, 3) := by decide +kernel
theorem dL_grid_227 : decode cL_grid 227 = .ok (.ifCond .ne 251, 3) := by decide +kernel
theorem dL_grid_230 : decode cL_grid 230 = .ok (.aload_n 0, 1) := by decide +kernel
theorem dL_grid_231 : decode cL_grid 231 = .ok (.iconst 1, 1) := by decide +kernel
theorem dL_grid_232 : decode cL_grid 232 = .ok (.iconst 1, 1) := by decide +kernel
theorem dL_grid_233 : decode cL_grid 233 = .ok (.bipush 59, 2) := by decide +kernel
theorem dL_grid_235 : decode cL_grid 235 = .ok (.iconst 5, 1) := by decide +kernel
theorem dL_grid_236 : decode cL_grid 236 = .ok (.iconst 1, 1) := by decide +kernel
theorem dL_grid_237 : decode cL_grid 237 = .ok (.bipush 101, 2) := by decide +kernel
theorem dL_grid_239 : decode cL_grid 239 = .ok (.iconst 0, 1) := by decide +kernel
theorem dL_grid_240 : decode cL_grid 240 = .ok (.iconst (-1), 1) := by decide +kernel
theorem dL_grid_241 : decode cL_grid 241 = .ok (.invokestatic 88, 3) := by decide +kernel
theorem dL_grid_244 : decode cL_grid 244 = .ok (.iconst 2, 1) := by decide +kernel
theorem dL_grid_245 : decode cL_grid 245 = .ok (.if_icmp .ne 233, 3) := by decide +kernel
theorem dL_grid_248 : decode cL_grid 248 = .ok (.aload_n 0, 1) := by decide +kernel
theorem dL_grid_249 : decode cL_grid 249 = .ok (.iconst 1, 1) := by decide +kernel
theorem dL_grid_250 : decode cL_grid 250 = .ok (.iconst 1, 1) := by decide +kernel
theorem dL_grid_251 : decode cL_grid 251 = .ok (.bipush 60, 2) := by decide +kernel
theorem dL_grid_253 : decode cL_grid 253 = .ok (.iconst 5, 1) := by decide +kernel
theorem dL_grid_254 : decode cL_grid 254 = .ok (.iconst 1, 1) := by decide +kernel
theorem dL_grid_255 : decode cL_grid 255 = .ok (.bipush 101, 2) := by decide +kernel
theorem dL_grid_257 : decode cL_grid 257 = .ok (.iconst 0, 1) := by decide +kernel
theorem dL_grid_258 : decode cL_grid 258 = .ok (.iconst (-1), 1) := by decide +kernel
theorem dL_grid_259 : decode cL_grid 259 = .ok (.invokestatic 88, 3) := by decide +kernel
theorem dL_grid_262 : decode cL_grid 262 = .ok (.ifCond .ne 216, 3) := by decide +kernel
theorem dL_grid_265 : decode cL_grid 265 = .ok (.aload_n 0, 1) := by decide +kernel
theorem dL_grid_266 : decode cL_grid 266 = .ok (.iconst 1, 1) := by decide +kernel
theorem dL_grid_267 : decode cL_grid 267 = .ok (.iconst 0, 1) := by decide +kernel
theorem dL_grid_268 : decode cL_grid 268 = .ok (.sipush 149, 3) := by decide +kernel
theorem dL_grid_271 : decode cL_grid 271 = .ok (.iconst 5, 1) := by decide +kernel
theorem dL_grid_272 : decode cL_grid 272 = .ok (.iconst 2, 1) := by decide +kernel
theorem dL_grid_273 : decode cL_grid 273 = .ok (.iconst 0, 1) := by decide +kernel
theorem dL_grid_274 : decode cL_grid 274 = .ok (.iconst 0, 1) := by decide +kernel
theorem dL_grid_275 : decode cL_grid 275 = .ok (.iconst (-1), 1) := by decide +kernel
theorem dL_grid_276 : decode cL_grid 276 = .ok (.invokestatic 88, 3) := by decide +kernel
theorem dL_grid_279 : decode cL_grid 279 = .ok (.iconst 1, 1) := by decide +kernel
theorem dL_grid_280 : decode cL_grid 280 = .ok (.if_icmp .ne 198, 3) := by decide +kernel
theorem dL_grid_283 : decode cL_grid 283 = .ok (.aload_n 0, 1) := by decide +kernel
theorem dL_grid_284 : decode cL_grid 284 = .ok (.iconst 1, 1) := by decide +kernel
theorem dL_grid_285 : decode cL_grid 285 = .ok (.iconst 0, 1) := by decide +kernel
theorem dL_grid_286 : decode cL_grid 286 = .ok (.sipush 150, 3) := by decide +kernel
theorem dL_grid_289 : decode cL_grid 289 = .ok (.iconst 5, 1) := by decide +kernel
theorem dL_grid_290 : decode cL_grid 290 = .ok (.iconst 2, 1) := by decide +kernel
theorem dL_grid_291 : decode cL_grid 291 = .ok (.iconst 0, 1) := by decide +kernel
theorem dL_grid_292 : decode cL_grid 292 = .ok (.iconst 0, 1) := by decide +kernel
theorem dL_grid_293 : decode cL_grid 293 = .ok (.iconst (-1), 1) := by decide +kernel
theorem dL_grid_294 : decode cL_grid 294 = .ok (.invokestatic 88, 3) := by decide +kernel
theorem dL_grid_297 : decode cL_grid 297 = .ok (.ifCond .ne 181, 3) := by decide +kernel
theorem dL_grid_300 : decode cL_grid 300 = .ok (.aload_n 0, 1) := by decide +kernel
theorem dL_grid_301 : decode cL_grid 301 = .ok (.iconst 1, 1) := by decide +kernel
theorem dL_grid_302 : decode cL_grid 302 = .ok (.iconst 0, 1) := by decide +kernel
theorem dL_grid_303 : decode cL_grid 303 = .ok (.bipush 100, 2) := by decide +kernel
theorem dL_grid_305 : decode cL_grid 305 = .ok (.bipush 50, 2) := by decide +kernel
theorem dL_grid_307 : decode cL_grid 307 = .ok (.iconst 2, 1) := by decide +kernel
theorem dL_grid_308 : decode cL_grid 308 = .ok (.iconst 0, 1) := by decide +kernel
theorem dL_grid_309 : decode cL_grid 309 = .ok (.iconst 0, 1) := by decide +kernel
theorem dL_grid_310 : decode cL_grid 310 = .ok (.iconst (-1), 1) := by decide +kernel
theorem dL_grid_311 : decode cL_grid 311 = .ok (.invokestatic 88, 3) := by decide +kernel
theorem dL_grid_314 : decode cL_grid 314 = .ok (.iconst 1, 1) := by decide +kernel
theorem dL_grid_315 : decode cL_grid 315 = .ok (.if_icmp .ne 163, 3) := by decide +kernel
theorem dL_grid_318 : decode cL_grid 318 = .ok (.aload_n 0, 1) := by decide +kernel
theorem dL_grid_319 : decode cL_grid 319 = .ok (.iconst 1, 1) := by decide +kernel
theorem dL_grid_320 : decode cL_grid 320 = .ok (.iconst 0, 1) := by decide +kernel
theorem dL_grid_321 : decode cL_grid 321 = .ok (.bipush 95, 2) := by decide +kernel
theorem dL_grid_323 : decode cL_grid 323 = .ok (.iconst 5, 1) := by decide +kernel
theorem dL_grid_324 : decode cL_grid 324 = .ok (.iconst 2, 1) := by decide +kernel
theorem dL_grid_325 : decode cL_grid 325 = .ok (.iconst 0, 1) := by decide +kernel
theorem dL_grid_326 : decode cL_grid 326 = .ok (.iconst 0, 1) := by decide +kernel
theorem dL_grid_327 : decode cL_grid 327 = .ok (.iconst (-1), 1) := by decide +kernel
theorem dL_grid_328 : decode cL_grid 328 = .ok (.invokestatic 88, 3) := by decide +kernel
theorem dL_grid_331 : decode cL_grid 331 = .ok (.ifCond .ne 147, 3) := by decide +kernel
theorem dL_grid_334 : decode cL_grid 334 = .ok (.aload_n 0, 1) := by decide +kernel
theorem dL_grid_335 : decode cL_grid 335 = .ok (.iconst 1, 1) := by decide +kernel
theorem dL_grid_336 : decode cL_grid 336 = .ok (.iconst 0, 1) := by decide +kernel
theorem dL_grid_337 : decode cL_grid 337 = .ok (.bipush 95, 2) := by decide +kernel
theorem dL_grid_339 : decode cL_grid 339 = .ok (.bipush 6, 2) := by decide +kernel
theorem dL_grid_341 : decode cL_grid 341 = .ok (.iconst 2, 1) := by decide +kernel
theorem dL_grid_342 : decode cL_grid 342 = .ok (.iconst 0, 1) := by decide +kernel
theorem dL_grid_343 : decode cL_grid 343 = .ok (.iconst 0, 1) := by decide +kernel
theorem dL_grid_344 : decode cL_grid 344 = .ok (.iconst (-1), 1) := by decide +kernel
theorem dL_grid_345 : decode cL_grid 345 = .ok (.invokestatic 88, 3) := by decide +kernel
theorem dL_grid_348 : decode cL_grid 348 = .ok (.iconst 1, 1) := by decide +kernel
theorem dL_grid_349 : decode cL_grid 349 = .ok (.if_icmp .ne 129, 3) := by decide +kernel
theorem dL_grid_352 : decode cL_grid 352 = .ok (.aload_n 0, 1) := by decide +kernel
theorem dL_grid_353 : decode cL_grid 353 = .ok (.iconst 1, 1) := by decide +kernel
theorem dL_grid_354 : decode cL_grid 354 = .ok (.iconst 2, 1) := by decide +kernel
theorem dL_grid_355 : decode cL_grid 355 = .ok (.sipush 801, 3) := by decide +kernel
theorem dL_grid_358 : decode cL_grid 358 = .ok (.sipush 199, 3) := by decide +kernel
theorem dL_grid_361 : decode cL_grid 361 = .ok (.iconst 2, 1) := by decide +kernel
theorem dL_grid_362 : decode cL_grid 362 = .ok (.iconst 0, 1) := by decide +kernel
theorem dL_grid_363 : decode cL_grid 363 = .ok (.iconst 0, 1) := by decide +kernel
theorem dL_grid_364 : decode cL_grid 364 = .ok (.iconst (-1), 1) := by decide +kernel
theorem dL_grid_365 : decode cL_grid 365 = .ok (.invokestatic 88, 3) := by decide +kernel
theorem dL_grid_368 : decode cL_grid 368 = .ok (.ifCond .ne 110, 3) := by decide +kernel
theorem dL_grid_371 : decode cL_grid 371 = .ok (.aload_n 0, 1) := by decide +kernel
theorem dL_grid_372 : decode cL_grid 372 = .ok (.iconst 1, 1) := by decide +kernel
theorem dL_grid_373 : decode cL_grid 373 = .ok (.iconst 2, 1) := by decide +kernel
theorem dL_grid_374 : decode cL_grid 374 = .ok (.sipush 801, 3) := by decide +kernel
theorem dL_grid_377 : decode cL_grid 377 = .ok (.sipush 200, 3) := by decide +kernel
theorem dL_grid_380 : decode cL_grid 380 = .ok (.iconst 2, 1) := by decide +kernel
theorem dL_grid_381 : decode cL_grid 381 = .ok (.iconst 0, 1) := by decide +kernel
theorem dL_grid_382 : decode cL_grid 382 = .ok (.iconst 0, 1) := by decide +kernel
theorem dL_grid_383 : decode cL_grid 383 = .ok (.iconst (-1), 1) := by decide +kernel
theorem dL_grid_384 : decode cL_grid 384 = .ok (.invokestatic 88, 3) := by decide +kernel
theorem dL_grid_387 : decode cL_grid 387 = .ok (.iconst 1, 1) := by decide +kernel
theorem dL_grid_388 : decode cL_grid 388 = .ok (.if_icmp .ne 90, 3) := by decide +kernel
theorem dL_grid_391 : decode cL_grid 391 = .ok (.aload_n 0, 1) := by decide +kernel
theorem dL_grid_392 : decode cL_grid 392 = .ok (.iconst 0, 1) := by decide +kernel
theorem dL_grid_393 : decode cL_grid 393 = .ok (.bipush 20, 2) := by decide +kernel
theorem dL_grid_395 : decode cL_grid 395 = .ok (.invokevirtual 34, 3) := by decide +kernel
theorem dL_grid_398 : decode cL_grid 398 = .ok (.ifCond .eq 80, 3) := by decide +kernel
theorem dL_grid_401 : decode cL_grid 401 = .ok (.aload_n 0, 1) := by decide +kernel
theorem dL_grid_402 : decode cL_grid 402 = .ok (.iconst 1, 1) := by decide +kernel
theorem dL_grid_403 : decode cL_grid 403 = .ok (.iconst 0, 1) := by decide +kernel
theorem dL_grid_404 : decode cL_grid 404 = .ok (.sipush 169, 3) := by decide +kernel
theorem dL_grid_407 : decode cL_grid 407 = .ok (.iconst 5, 1) := by decide +kernel
theorem dL_grid_408 : decode cL_grid 408 = .ok (.iconst 2, 1) := by decide +kernel
theorem dL_grid_409 : decode cL_grid 409 = .ok (.iconst 0, 1) := by decide +kernel
theorem dL_grid_410 : decode cL_grid 410 = .ok (.iconst 0, 1) := by decide +kernel
theorem dL_grid_411 : decode cL_grid 411 = .ok (.iconst (-1), 1) := by decide +kernel
theorem dL_grid_412 : decode cL_grid 412 = .ok (.invokestatic 88, 3) := by decide +kernel
theorem dL_grid_415 : decode cL_grid 415 = .ok (.iconst 1, 1) := by decide +kernel
theorem dL_grid_416 : decode cL_grid 416 = .ok (.if_icmp .ne 62, 3) := by decide +kernel
theorem dL_grid_419 : decode cL_grid 419 = .ok (.aload_n 0, 1) := by decide +kernel
theorem dL_grid_420 : decode cL_grid 420 = .ok (.iconst 1, 1) := by decide +kernel
theorem dL_grid_421 : decode cL_grid 421 = .ok (.iconst 0, 1) := by decide +kernel
theorem dL_grid_422 : decode cL_grid 422 = .ok (.sipush 170, 3) := by decide +kernel
theorem dL_grid_425 : decode cL_grid 425 = .ok (.iconst 5, 1) := by decide +kernel
theorem dL_grid_426 : decode cL_grid 426 = .ok (.iconst 2, 1) := by decide +kernel
theorem dL_grid_427 : decode cL_grid 427 = .ok (.iconst 0, 1) := by decide +kernel
theorem dL_grid_428 : decode cL_grid 428 = .ok (.iconst 0, 1) := by decide +kernel
theorem dL_grid_429 : decode cL_grid 429 = .ok (.iconst (-1), 1) := by decide +kernel
theorem dL_grid_430 : decode cL_grid 430 = .ok (.invokestatic 88, 3) := by decide +kernel
theorem dL_grid_433 : decode cL_grid 433 = .ok (.ifCond .ne 45, 3) := by decide +kernel
theorem dL_grid_436 : decode cL_grid 436 = .ok (.aload_n 0, 1) := by decide +kernel
theorem dL_grid_437 : decode cL_grid 437 = .ok (.iconst 1, 1) := by decide +kernel
theorem dL_grid_438 : decode cL_grid 438 = .ok (.iconst 0, 1) := by decide +kernel
theorem dL_grid_439 : decode cL_grid 439 = .ok (.bipush 75, 2) := by decide +kernel
theorem dL_grid_441 : decode cL_grid 441 = .ok (.bipush 6, 2) := by decide +kernel
theorem dL_grid_443 : decode cL_grid 443 = .ok (.iconst 2, 1) := by decide +kernel
theorem dL_grid_444 : decode cL_grid 444 = .ok (.iconst 0, 1) := by decide +kernel
theorem dL_grid_445 : decode cL_grid 445 = .ok (.iconst 0, 1) := by decide +kernel
theorem dL_grid_446 : decode cL_grid 446 = .ok (.iconst (-1), 1) := by decide +kernel
theorem dL_grid_447 : decode cL_grid 447 = .ok (.invokestatic 88, 3) := by decide +kernel
theorem dL_grid_450 : decode cL_grid 450 = .ok (.iconst 1, 1) := by decide +kernel
theorem dL_grid_451 : decode cL_grid 451 = .ok (.if_icmp .ne 27, 3) := by decide +kernel
theorem dL_grid_454 : decode cL_grid 454 = .ok (.aload_n 0, 1) := by decide +kernel
theorem dL_grid_455 : decode cL_grid 455 = .ok (.iconst 1, 1) := by decide +kernel
theorem dL_grid_456 : decode cL_grid 456 = .ok (.iconst 0, 1) := by decide +kernel
theorem dL_grid_457 : decode cL_grid 457 = .ok (.bipush 75, 2) := by decide +kernel
theorem dL_grid_459 : decode cL_grid 459 = .ok (.iconst 5, 1) := by decide +kernel
theorem dL_grid_460 : decode cL_grid 460 = .ok (.iconst 2, 1) := by decide +kernel
theorem dL_grid_461 : decode cL_grid 461 = .ok (.iconst 0, 1) := by decide +kernel
theorem dL_grid_462 : decode cL_grid 462 = .ok (.iconst 0, 1) := by decide +kernel
theorem dL_grid_463 : decode cL_grid 463 = .ok (.iconst (-1), 1) := by decide +kernel
theorem dL_grid_464 : decode cL_grid 464 = .ok (.invokestatic 88, 3) := by decide +kernel
theorem dL_grid_467 : decode cL_grid 467 = .ok (.ifCond .ne 11, 3) := by decide +kernel
theorem dL_grid_470 : decode cL_grid 470 = .ok (.aload_n 0, 1) := by decide +kernel
theorem dL_grid_471 : decode cL_grid 471 = .ok (.iconst 1, 1) := by decide +kernel
theorem dL_grid_472 : decode cL_grid 472 = .ok (.invokestatic 100, 3) := by decide +kernel
theorem dL_grid_475 : decode cL_grid 475 = .ok (.ifCond .ne 5, 3) := by decide +kernel
theorem dL_grid_478 : decode cL_grid 478 = .ok (.iconst 0, 1) := by decide +kernel
theorem dL_grid_479 : decode cL_grid 479 = .ok (.ireturn, 1) := by decide +kernel
theorem dL_grid_480 : decode cL_grid 480 = .ok (.aload_n 0, 1) := by decide +kernel
theorem dL_grid_481 : decode cL_grid 481 = .ok (.iconst 0, 1) := by decide +kernel
theorem dL_grid_482 : decode cL_grid 482 = .ok (.sipush 170, 3) := by decide +kernel
theorem dL_grid_485 : decode cL_grid 485 = .ok (.bipush 30, 2) := by decide +kernel
theorem dL_grid_487 : decode cL_grid 487 = .ok (.iconst 2, 1) := by decide +kernel
theorem dL_grid_488 : decode cL_grid 488 = .ok (.iconst 0, 1) := by decide +kernel
theorem dL_grid_489 : decode cL_grid 489 = .ok (.iconst 0, 1) := by decide +kernel
theorem dL_grid_490 : decode cL_grid 490 = .ok (.iconst (-1), 1) := by decide +kernel
theorem dL_grid_491 : decode cL_grid 491 = .ok (.invokevirtual 13, 3) := by decide +kernel
theorem dL_grid_494 : decode cL_grid 494 = .ok (.iconst 1, 1) := by decide +kernel
theorem dL_grid_495 : decode cL_grid 495 = .ok (.if_icmp .ne 214, 3) := by decide +kernel
theorem dL_grid_498 : decode cL_grid 498 = .ok (.aload_n 0, 1) := by decide +kernel
theorem dL_grid_499 : decode cL_grid 499 = .ok (.iconst 0, 1) := by decide +kernel
theorem dL_grid_500 : decode cL_grid 500 = .ok (.bipush 21, 2) := by decide +kernel
theorem dL_grid_502 : decode cL_grid 502 = .ok (.invokevirtual 34, 3) := by decide +kernel
theorem dL_grid_505 : decode cL_grid 505 = .ok (.ifCond .ne 204, 3) := by decide +kernel
theorem dL_grid_508 : decode cL_grid 508 = .ok (.aload_n 0, 1) := by decide +kernel
theorem dL_grid_509 : decode cL_grid 509 = .ok (.iconst 0, 1) := by decide +kernel
theorem dL_grid_510 : decode cL_grid 510 = .ok (.bipush 20, 2) := by decide +kernel
theorem dL_grid_512 : decode cL_grid 512 = .ok (.invokevirtual 34, 3) := by decide +kernel
theorem dL_grid_515 : decode cL_grid 515 = .ok (.ifCond .eq 194, 3) := by decide +kernel
theorem dL_grid_518 : decode cL_grid 518 = .ok (.aload_n 0, 1) := by decide +kernel
theorem dL_grid_519 : decode cL_grid 519 = .ok (.iconst 0, 1) := by decide +kernel
theorem dL_grid_520 : decode cL_grid 520 = .ok (.iconst 0, 1) := by decide +kernel
theorem dL_grid_521 : decode cL_grid 521 = .ok (.invokevirtual 34, 3) := by decide +kernel
theorem dL_grid_524 : decode cL_grid 524 = .ok (.ifCond .eq 185, 3) := by decide +kernel
theorem dL_grid_527 : decode cL_grid 527 = .ok (.aload_n 0, 1) := by decide +kernel
theorem dL_grid_528 : decode cL_grid 528 = .ok (.iconst 1, 1) := by decide +kernel
theorem dL_grid_529 : decode cL_grid 529 = .ok (.iconst 0, 1) := by decide +kernel
theorem dL_grid_530 : decode cL_grid 530 = .ok (.invokevirtual 50, 3) := by decide +kernel
theorem dL_grid_533 : decode cL_grid 533 = .ok (.ifCond .ne 176, 3) := by decide +kernel
theorem dL_grid_536 : decode cL_grid 536 = .ok (.aload_n 0, 1) := by decide +kernel
theorem dL_grid_537 : decode cL_grid 537 = .ok (.iconst 1, 1) := by decide +kernel
theorem dL_grid_538 : decode cL_grid 538 = .ok (.bipush 71, 2) := by decide +kernel
theorem dL_grid_540 : decode cL_grid 540 = .ok (.invokevirtual 50, 3) := by decide +kernel
theorem dL_grid_543 : decode cL_grid 543 = .ok (.sipush 150, 3) := by decide +kernel
theorem dL_grid_546 : decode cL_grid 546 = .ok (.if_icmp .ne 163, 3) := by decide +kernel
theorem dL_grid_549 : decode cL_grid 549 = .ok (.aload_n 0, 1) := by decide +kernel
theorem dL_grid_550 : decode cL_grid 550 = .ok (.iconst 1, 1) := by decide +kernel
theorem dL_grid_551 : decode cL_grid 551 = .ok (.sipush 150, 3) := by decide +kernel
theorem dL_grid_554 : decode cL_grid 554 = .ok (.invokevirtual 50, 3) := by decide +kernel
theorem dL_grid_557 : decode cL_grid 557 = .ok (.sipush 150, 3) := by decide +kernel
theorem dL_grid_560 : decode cL_grid 560 = .ok (.if_icmp .ne 149, 3) := by decide +kernel
theorem dL_grid_563 : decode cL_grid 563 = .ok (.aload_n 0, 1) := by decide +kernel
theorem dL_grid_564 : decode cL_grid 564 = .ok (.iconst 1, 1) := by decide +kernel
theorem dL_grid_565 : decode cL_grid 565 = .ok (.sipush 970, 3) := by decide +kernel
theorem dL_grid_568 : decode cL_grid 568 = .ok (.invokevirtual 50, 3) := by decide +kernel
theorem dL_grid_571 : decode cL_grid 571 = .ok (.sipush 970, 3) := by decide +kernel
theorem dL_grid_574 : decode cL_grid 574 = .ok (.if_icmp .ne 135, 3) := by decide +kernel
theorem dL_grid_577 : decode cL_grid 577 = .ok (.aload_n 0, 1) := by decide +kernel
theorem dL_grid_578 : decode cL_grid 578 = .ok (.iconst 1, 1) := by decide +kernel
theorem dL_grid_579 : decode cL_grid 579 = .ok (.sipush 971, 3) := by decide +kernel
theorem dL_grid_582 : decode cL_grid 582 = .ok (.invokevirtual 50, 3) := by decide +kernel
theorem dL_grid_585 : decode cL_grid 585 = .ok (.iconst (-1), 1) := by decide +kernel
theorem dL_grid_586 : decode cL_grid 586 = .ok (.if_icmp .ne 123, 3) := by decide +kernel
theorem dL_grid_589 : decode cL_grid 589 = .ok (.aload_n 0, 1) := by decide +kernel
theorem dL_grid_590 : decode cL_grid 590 = .ok (.iconst 1, 1) := by decide +kernel
theorem dL_grid_591 : decode cL_grid 591 = .ok (.bipush 120, 2) := by decide +kernel
theorem dL_grid_593 : decode cL_grid 593 = .ok (.invokevirtual 44, 3) := by decide +kernel
theorem dL_grid_596 : decode cL_grid 596 = .ok (.ifCond .ne 113, 3) := by decide +kernel
theorem dL_grid_599 : decode cL_grid 599 = .ok (.aload_n 0, 1) := by decide +kernel
theorem dL_grid_600 : decode cL_grid 600 = .ok (.iconst 1, 1) := by decide +kernel
theorem dL_grid_601 : decode cL_grid 601 = .ok (.invokevirtual 47, 3) := by decide +kernel
theorem dL_grid_604 : decode cL_grid 604 = .ok (.sipush 170, 3) := by decide +kernel
theorem dL_grid_607 : decode cL_grid 607 = .ok (.if_icmp .ne 102, 3) := by decide +kernel
theorem dL_grid_610 : decode cL_grid 610 = .ok (.aload_n 0, 1) := by decide +kernel
theorem dL_grid_611 : decode cL_grid 611 = .ok (.iconst 1, 1) := by decide +kernel
theorem dL_grid_612 : decode cL_grid 612 = .ok (.sipush 150, 3) := by decide +kernel
theorem dL_grid_615 : decode cL_grid 615 = .ok (.invokevirtual 44, 3) := by decide +kernel
theorem dL_grid_618 : decode cL_grid 618 = .ok (.ifCond .eq 91, 3) := by decide +kernel
theorem dL_grid_621 : decode cL_grid 621 = .ok (.aload_n 0, 1) := by decide +kernel
theorem dL_grid_622 : decode cL_grid 622 = .ok (.iconst 1, 1) := by decide +kernel
theorem dL_grid_623 : decode cL_grid 623 = .ok (.invokevirtual 47, 3) := by decide +kernel
theorem dL_grid_626 : decode cL_grid 626 = .ok (.sipush 150, 3) := by decide +kernel
theorem dL_grid_629 : decode cL_grid 629 = .ok (.if_icmp .ne 80, 3) := by decide +kernel
theorem dL_grid_632 : decode cL_grid 632 = .ok (.aload_n 0, 1) := by decide +kernel
theorem dL_grid_633 : decode cL_grid 633 = .ok (.iconst 0, 1) := by decide +kernel
theorem dL_grid_634 : decode cL_grid 634 = .ok (.invokestatic 85, 3) := by decide +kernel
theorem dL_grid_637 : decode cL_grid 637 = .ok (.ifCond .ne 72, 3) := by decide +kernel
theorem dL_grid_640 : decode cL_grid 640 = .ok (.aload_n 0, 1) := by decide +kernel
theorem dL_grid_641 : decode cL_grid 641 = .ok (.iconst 0, 1) := by decide +kernel
theorem dL_grid_642 : decode cL_grid 642 = .ok (.invokestatic 85, 3) := by decide +kernel
theorem dL_grid_645 : decode cL_grid 645 = .ok (.bipush (-73), 2) := by decide +kernel
theorem dL_grid_647 : decode cL_grid 647 = .ok (.if_icmp .ne 62, 3) := by decide +kernel
theorem dL_grid_650 : decode cL_grid 650 = .ok (.aload_n 0, 1) := by decide +kernel
theorem dL_grid_651 : decode cL_grid 651 = .ok (.iconst 0, 1) := by decide +kernel
theorem dL_grid_652 : decode cL_grid 652 = .ok (.invokevirtual 47, 3) := by decide +kernel
theorem dL_grid_655 : decode cL_grid 655 = .ok (.iconst (-1), 1) := by decide +kernel
theorem dL_grid_656 : decode cL_grid 656 = .ok (.if_icmp .ne 53, 3) := by decide +kernel
theorem dL_grid_659 : decode cL_grid 659 = .ok (.aload_n 0, 1) := by decide +kernel
theorem dL_grid_660 : decode cL_grid 660 = .ok (.iconst 4, 1) := by decide +kernel
theorem dL_grid_661 : decode cL_grid 661 = .ok (.iconst 0, 1) := by decide +kernel
theorem dL_grid_662 : decode cL_grid 662 = .ok (.iconst 5, 1) := by decide +kernel
theorem dL_grid_663 : decode cL_grid 663 = .ok (.iconst 0, 1) := by decide +kernel
theorem dL_grid_664 : decode cL_grid 664 = .ok (.invokestatic 79, 3) := by decide +kernel
theorem dL_grid_667 : decode cL_grid 667 = .ok (.bipush (-73), 2) := by decide +kernel
theorem dL_grid_669 : decode cL_grid 669 = .ok (.if_icmp .ne 40, 3) := by decide +kernel
theorem dL_grid_672 : decode cL_grid 672 = .ok (.aload_n 0, 1) := by decide +kernel
theorem dL_grid_673 : decode cL_grid 673 = .ok (.bipush 6, 2) := by decide +kernel
theorem dL_grid_675 : decode cL_grid 675 = .ok (.iconst 0, 1) := by decide +kernel
theorem dL_grid_676 : decode cL_grid 676 = .ok (.iconst 5, 1) := by decide +kernel
theorem dL_grid_677 : decode cL_grid 677 = .ok (.iconst 0, 1) := by decide +kernel
theorem dL_grid_678 : decode cL_grid 678 = .ok (.invokestatic 79, 3) := by decide +kernel
theorem dL_grid_681 : decode cL_grid 681 = .ok (.bipush (-73), 2) := by decide +kernel
theorem dL_grid_683 : decode cL_grid 683 = .ok (.if_icmp .ne 26, 3) := by decide +kernel
theorem dL_grid_686 : decode cL_grid 686 = .ok (.aload_n 0, 1) := by decide +kernel
theorem dL_grid_687 : decode cL_grid 687 = .ok (.bipush 100, 2) := by decide +kernel
theorem dL_grid_689 : decode cL_grid 689 = .ok (.iconst 0, 1) := by decide +kernel
theorem dL_grid_690 : decode cL_grid 690 = .ok (.invokevirtual 65, 3) := by decide +kernel
theorem dL_grid_693 : decode cL_grid 693 = .ok (.ifCond .ne 16, 3) := by decide +kernel
theorem dL_grid_696 : decode cL_grid 696 = .ok (.aload_n 0, 1) := by decide +kernel
theorem dL_grid_697 : decode cL_grid 697 = .ok (.iconst 0, 1) := by decide +kernel
theorem dL_grid_698 : decode cL_grid 698 = .ok (.sipush 200, 3) := by decide +kernel
theorem dL_grid_701 : decode cL_grid 701 = .ok (.iconst 0, 1) := by decide +kernel
theorem dL_grid_702 : decode cL_grid 702 = .ok (.iconst (-1), 1) := by decide +kernel
theorem dL_grid_703 : decode cL_grid 703 = .ok (.invokestatic 104, 3) := by decide +kernel
theorem dL_grid_706 : decode cL_grid 706 = .ok (.ifCond .ne 5, 3) := by decide +kernel
theorem dL_grid_709 : decode cL_grid 709 = .ok (.iconst 0, 1) := by decide +kernel
theorem dL_grid_710 : decode cL_grid 710 = .ok (.ireturn, 1) := by decide +kernel
theorem dL_grid_711 : decode cL_grid 711 = .ok (.new 8, 3) := by decide +kernel
theorem dL_grid_714 : decode cL_grid 714 = .ok (.dup, 1) := by decide +kernel
theorem dL_grid_715 : decode cL_grid 715 = .ok (.invokespecial 99, 3) := by decide +kernel
theorem dL_grid_718 : decode cL_grid 718 = .ok (.astore_n 1, 1) := by decide +kernel
theorem dL_grid_719 : decode cL_grid 719 = .ok (.aload_n 1, 1) := by decide +kernel
theorem dL_grid_720 : decode cL_grid 720 = .ok (.iconst 0, 1) := by decide +kernel
theorem dL_grid_721 : decode cL_grid 721 = .ok (.iconst 0, 1) := by decide +kernel
theorem dL_grid_722 : decode cL_grid 722 = .ok (.bipush 100, 2) := by decide +kernel
theorem dL_grid_724 : decode cL_grid 724 = .ok (.iconst 0, 1) := by decide +kernel
theorem dL_grid_725 : decode cL_grid 725 = .ok (.iconst 0, 1) := by decide +kernel
theorem dL_grid_726 : decode cL_grid 726 = .ok (.iconst 0, 1) := by decide +kernel
theorem dL_grid_727 : decode cL_grid 727 = .ok (.bipush 10, 2) := by decide +kernel
theorem dL_grid_729 : decode cL_grid 729 = .ok (.invokevirtual 13, 3) := by decide +kernel
theorem dL_grid_732 : decode cL_grid 732 = .ok (.ifCond .ne 318, 3) := by decide +kernel
theorem dL_grid_735 : decode cL_grid 735 = .ok (.aload_n 1, 1) := by decide +kernel
theorem dL_grid_736 : decode cL_grid 736 = .ok (.iconst 1, 1) := by decide +kernel
theorem dL_grid_737 : decode cL_grid 737 = .ok (.iconst 1, 1) := by decide +kernel
theorem dL_grid_738 : decode cL_grid 738 = .ok (.bipush 99, 2) := by decide +kernel
theorem dL_grid_740 : decode cL_grid 740 = .ok (.bipush 100, 2) := by decide +kernel
theorem dL_grid_742 : decode cL_grid 742 = .ok (.iconst 0, 1) := by decide +kernel
theorem dL_grid_743 : decode cL_grid 743 = .ok (.iconst 0, 1) := by decide +kernel
theorem dL_grid_744 : decode cL_grid 744 = .ok (.iconst 0, 1) := by decide +kernel
theorem dL_grid_745 : decode cL_grid 745 = .ok (.bipush 9, 2) := by decide +kernel
theorem dL_grid_747 : decode cL_grid 747 = .ok (.invokestatic 88, 3) := by decide +kernel
theorem dL_grid_750 : decode cL_grid 750 = .ok (.iconst 3, 1) := by decide +kernel
theorem dL_grid_751 : decode cL_grid 751 = .ok (.if_icmp .ne 299, 3) := by decide +kernel
theorem dL_grid_754 : decode cL_grid 754 = .ok (.aload_n 1, 1) := by decide +kernel
theorem dL_grid_755 : decode cL_grid 755 = .ok (.iconst 1, 1) := by decide +kernel
theorem dL_grid_756 : decode cL_grid 756 = .ok (.iconst 1, 1) := by decide +kernel
theorem dL_grid_757 : decode cL_grid 757 = .ok (.bipush 99, 2) := by decide +kernel
theorem dL_grid_759 : decode cL_grid 759 = .ok (.bipush 100, 2) := by decide +kernel
theorem dL_grid_761 : decode cL_grid 761 = .ok (.iconst 0, 1) := by decide +kernel
theorem dL_grid_762 : decode cL_grid 762 = .ok (.iconst 0, 1) := by decide +kernel
theorem dL_grid_763 : decode cL_grid 763 = .ok (.iconst 0, 1) := by decide +kernel
theorem dL_grid_764 : decode cL_grid 764 = .ok (.bipush 10, 2) := by decide +kernel
theorem dL_grid_766 : decode cL_grid 766 = .ok (.invokestatic 88, 3) := by decide +kernel
theorem dL_grid_769 : decode cL_grid 769 = .ok (.iconst 3, 1) := by decide +kernel
theorem dL_grid_770 : decode cL_grid 770 = .ok (.if_icmp .ne 280, 3) := by decide +kernel
theorem dL_grid_773 : decode cL_grid 773 = .ok (.aload_n 1, 1) := by decide +kernel
theorem dL_grid_774 : decode cL_grid 774 = .ok (.iconst 1, 1) := by decide +kernel
theorem dL_grid_775 : decode cL_grid 775 = .ok (.iconst 1, 1) := by decide +kernel
theorem dL_grid_776 : decode cL_grid 776 = .ok (.bipush 100, 2) := by decide +kernel
theorem dL_grid_778 : decode cL_grid 778 = .ok (.bipush 100, 2) := by decide +kernel
theorem dL_grid_780 : decode cL_grid 780 = .ok (.iconst 0, 1) := by decide +kernel
theorem dL_grid_781 : decode cL_grid 781 = .ok (.iconst 0, 1) := by decide +kernel
theorem dL_grid_782 : decode cL_grid 782 = .ok (.iconst 0, 1) := by decide +kernel
theorem dL_grid_783 : decode cL_grid 783 = .ok (.bipush 10, 2) := by decide +kernel
theorem dL_grid_785 : decode cL_grid 785 = .ok (.invokestatic 88, 3) := by decide +kernel
theorem dL_grid_788 : decode cL_grid 788 = .ok (.ifCond .ne 262, 3) := by decide +kernel
theorem dL_grid_791 : decode cL_grid 791 = .ok (.aload_n 1, 1) := by decide +kernel
theorem dL_grid_792 : decode cL_grid 792 = .ok (.iconst 1, 1) := by decide +kernel
theorem dL_grid_793 : decode cL_grid 793 = .ok (.bipush 50, 2) := by decide +kernel
theorem dL_grid_795 : decode cL_grid 795 = .ok (.bipush 100, 2) := by decide +kernel
theorem dL_grid_797 : decode cL_grid 797 = .ok (.iconst 0, 1) := by decide +kernel
theorem dL_grid_798 : decode cL_grid 798 = .ok (.iconst 0, 1) := by decide +kernel
theorem dL_grid_799 : decode cL_grid 799 = .ok (.iconst 0, 1) := by decide +kernel
theorem dL_grid_800 : decode cL_grid 800 = .ok (.bipush 12, 2) := by decide +kernel
theorem dL_grid_802 : decode cL_grid 802 = .ok (.invokevirtual 13, 3) := by decide +kernel
theorem dL_grid_805 : decode cL_grid 805 = .ok (.iconst 1, 1) := by decide +kernel
theorem dL_grid_806 : decode cL_grid 806 = .ok (.if_icmp .ne 244, 3) := by decide +kernel
theorem dL_grid_809 : decode cL_grid 809 = .ok (.aload_n 1, 1) := by decide +kernel
theorem dL_grid_810 : decode cL_grid 810 = .ok (.iconst 1, 1) := by decide +kernel
theorem dL_grid_811 : decode cL_grid 811 = .ok (.iconst 2, 1) := by decide +kernel
theorem dL_grid_812 : decode cL_grid 812 = .ok (.iconst 0, 1) := by decide +kernel
theorem dL_grid_813 : decode cL_grid 813 = .ok (.sipush 200, 3) := by decide +kernel
theorem dL_grid_816 : decode cL_grid 816 = .ok (.iconst 0, 1) := by decide +kernel
theorem dL_grid_817 : decode cL_grid 817 = .ok (.iconst 0, 1) := by decide +kernel
theorem dL_grid_818 : decode cL_grid 818 = .ok (.iconst 0, 1) := by decide +kernel
theorem dL_grid_819 : decode cL_grid 819 = .ok (.bipush 14, 2) := by decide +kernel
theorem dL_grid_821 : decode cL_grid 821 = .ok (.invokestatic 88, 3) := by decide +kernel
theorem dL_grid_824 : decode cL_grid 824 = .ok (.iconst 3, 1) := by decide +kernel
theorem dL_grid_825 : decode cL_grid 825 = .ok (.if_icmp .ne 225, 3) := by decide +kernel
theorem dL_grid_828 : decode cL_grid 828 = .ok (.aload_n 1, 1) := by decide +kernel
theorem dL_grid_829 : decode cL_grid 829 = .ok (.iconst 1, 1) := by decide +kernel
theorem dL_grid_830 : decode cL_grid 830 = .ok (.iconst 2, 1) := by decide +kernel
theorem dL_grid_831 : decode cL_grid 831 = .ok (.iconst 0, 1) := by decide +kernel
theorem dL_grid_832 : decode cL_grid 832 = .ok (.sipush 200, 3) := by decide +kernel
theorem dL_grid_835 : decode cL_grid 835 = .ok (.iconst 0, 1) := by decide +kernel
theorem dL_grid_836 : decode cL_grid 836 = .ok (.iconst 0, 1) := by decide +kernel
theorem dL_grid_837 : decode cL_grid 837 = .ok (.iconst 0, 1) := by decide +kernel
theorem dL_grid_838 : decode cL_grid 838 = .ok (.bipush 8, 2) := by decide +kernel
theorem dL_grid_840 : decode cL_grid 840 = .ok (.invokestatic 88, 3) := by decide +kernel
theorem dL_grid_843 : decode cL_grid 843 = .ok (.iconst 3, 1) := by decide +kernel
theorem dL_grid_844 : decode cL_grid 844 = .ok (.if_icmp .ne 206, 3) := by decide +kernel
theorem dL_grid_847 : decode cL_grid 847 = .ok (.aload_n 1, 1) := by decide +kernel
theorem dL_grid_848 : decode cL_grid 848 = .ok (.iconst 1, 1) := by decide +kernel
theorem dL_grid_849 : decode cL_grid 849 = .ok (.iconst 2, 1) := by decide +kernel
theorem dL_grid_850 : decode cL_grid 850 = .ok (.iconst 0, 1) := by decide +kernel
theorem dL_grid_851 : decode cL_grid 851 = .ok (.sipush 200, 3) := by decide +kernel
theorem dL_grid_854 : decode cL_grid 854 = .ok (.iconst 0, 1) := by decide +kernel
theorem dL_grid_855 : decode cL_grid 855 = .ok (.iconst 0, 1) := by decide +kernel
theorem dL_grid_856 : decode cL_grid 856 = .ok (.iconst 0, 1) := by decide +kernel
theorem dL_grid_857 : decode cL_grid 857 = .ok (.bipush 11, 2) := by decide +kernel
theorem dL_grid_859 : decode cL_grid 859 = .ok (.invokestatic 88, 3) := by decide +kernel
theorem dL_grid_862 : decode cL_grid 862 = .ok (.iconst 3, 1) := by decide +kernel
theorem dL_grid_863 : decode cL_grid 863 = .ok (.if_icmp .ne 187, 3) := by decide +kernel
theorem dL_grid_866 : decode cL_grid 866 = .ok (.aload_n 1, 1) := by decide +kernel
theorem dL_grid_867 : decode cL_grid 867 = .ok (.iconst 1, 1) := by decide +kernel
theorem dL_grid_868 : decode cL_grid 868 = .ok (.iconst 2, 1) := by decide +kernel
theorem dL_grid_869 : decode cL_grid 869 = .ok (.iconst 0, 1) := by decide +kernel
theorem dL_grid_870 : decode cL_grid 870 = .ok (.bipush 50, 2) := by decide +kernel
theorem dL_grid_872 : decode cL_grid 872 = .ok (.iconst 0, 1) := by decide +kernel
theorem dL_grid_873 : decode cL_grid 873 = .ok (.iconst 0, 1) := by decide +kernel
theorem dL_grid_874 : decode cL_grid 874 = .ok (.iconst 0, 1) := by decide +kernel
theorem dL_grid_875 : decode cL_grid 875 = .ok (.bipush 14, 2) := by decide +kernel
theorem dL_grid_877 : decode cL_grid 877 = .ok (.invokestatic 88, 3) := by decide +kernel
theorem dL_grid_880 : decode cL_grid 880 = .ok (.ifCond .ne 170, 3) := by decide +kernel
theorem dL_grid_883 : decode cL_grid 883 = .ok (.aload_n 1, 1) := by decide +kernel
theorem dL_grid_884 : decode cL_grid 884 = .ok (.iconst 1, 1) := by decide +kernel
theorem dL_grid_885 : decode cL_grid 885 = .ok (.iconst 2, 1) := by decide +kernel
theorem dL_grid_886 : decode cL_grid 886 = .ok (.iconst 0, 1) := by decide +kernel
theorem dL_grid_887 : decode cL_grid 887 = .ok (.bipush 51, 2) := by decide +kernel
theorem dL_grid_889 : decode cL_grid 889 = .ok (.iconst 0, 1) := by decide +kernel
theorem dL_grid_890 : decode cL_grid 890 = .ok (.iconst 0, 1) := by decide +kernel
theorem dL_grid_891 : decode cL_grid 891 = .ok (.iconst 0, 1) := by decide +kernel
theorem dL_grid_892 : decode cL_grid 892 = .ok (.bipush 14, 2) := by decide +kernel
theorem dL_grid_894 : decode cL_grid 894 = .ok (.invokestatic 88, 3) := by decide +kernel
theorem dL_grid_897 : decode cL_grid 897 = .ok (.iconst 3, 1) := by decide +kernel
theorem dL_grid_898 : decode cL_grid 898 = .ok (.if_icmp .ne 152, 3) := by decide +kernel
theorem dL_grid_901 : decode cL_grid 901 = .ok (.aload_n 1, 1) := by decide +kernel
theorem dL_grid_902 : decode cL_grid 902 = .ok (.iconst 2, 1) := by decide +kernel
theorem dL_grid_903 : decode cL_grid 903 = .ok (.bipush 99, 2) := by decide +kernel
theorem dL_grid_905 : decode cL_grid 905 = .ok (.bipush 101, 2) := by decide +kernel
theorem dL_grid_907 : decode cL_grid 907 = .ok (.iconst 0, 1) := by decide +kernel
theorem dL_grid_908 : decode cL_grid 908 = .ok (.iconst 0, 1) := by decide +kernel
theorem dL_grid_909 : decode cL_grid 909 = .ok (.iconst 0, 1) := by decide +kernel
theorem dL_grid_910 : decode cL_grid 910 = .ok (.bipush 15, 2) := by decide +kernel
theorem dL_grid_912 : decode cL_grid 912 = .ok (.invokevirtual 13, 3) := by decide +kernel
theorem dL_grid_915 : decode cL_grid 915 = .ok (.iconst 2, 1) := by decide +kernel
theorem dL_grid_916 : decode cL_grid 916 = .ok (.if_icmp .ne 134, 3) := by decide +kernel
theorem dL_grid_919 : decode cL_grid 919 = .ok (.aload_n 1, 1) := by decide +kernel
theorem dL_grid_920 : decode cL_grid 920 = .ok (.bipush 49, 2) := by decide +kernel
theorem dL_grid_922 : decode cL_grid 922 = .ok (.invokevirtual 71, 3) := by decide +kernel
theorem dL_grid_925 : decode cL_grid 925 = .ok (.sipush 1024, 3) := by decide +kernel
theorem dL_grid_928 : decode cL_grid 928 = .ok (.if_icmp .ne 122, 3) := by decide +kernel
theorem dL_grid_931 : decode cL_grid 931 = .ok (.aload_n 1, 1) := by decide +kernel
theorem dL_grid_932 : decode cL_grid 932 = .ok (.bipush 99, 2) := by decide +kernel
theorem dL_grid_934 : decode cL_grid 934 = .ok (.invokevirtual 71, 3) := by decide +kernel
theorem dL_grid_937 : decode cL_grid 937 = .ok (.ldc 108, 2) := by decide +kernel
theorem dL_grid_939 : decode cL_grid 939 = .ok (.if_icmp .ne 111, 3) := by decide +kernel
theorem dL_grid_942 : decode cL_grid 942 = .ok (.aload_n 1, 1) := by decide +kernel
theorem dL_grid_943 : decode cL_grid 943 = .ok (.bipush 100, 2) := by decide +kernel
theorem dL_grid_945 : decode cL_grid 945 = .ok (.invokevirtual 71, 3) := by decide +kernel
theorem dL_grid_948 : decode cL_grid 948 = .ok (.ldc 109, 2) := by decide +kernel
theorem dL_grid_950 : decode cL_grid 950 = .ok (.if_icmp .ne 100, 3) := by decide +kernel
theorem dL_grid_953 : decode cL_grid 953 = .ok (.aload_n 1, 1) := by decide +kernel
theorem dL_grid_954 : decode cL_grid 954 = .ok (.sipush 150, 3) := by decide +kernel
theorem dL_grid_957 : decode cL_grid 957 = .ok (.invokevirtual 71, 3) := by decide +kernel
theorem dL_grid_960 : decode cL_grid 960 = .ok (.ldc 110, 2) := by decide +kernel
theorem dL_grid_962 : decode cL_grid 962 = .ok (.if_icmp .ne 88, 3) := by decide +kernel
theorem dL_grid_965 : decode cL_grid 965 = .ok (.aload_n 1, 1) := by decide +kernel
theorem dL_grid_966 : decode cL_grid 966 = .ok (.iconst 0, 1) := by decide +kernel
theorem dL_grid_967 : decode cL_grid 967 = .ok (.bipush 60, 2) := by decide +kernel
theorem dL_grid_969 : decode cL_grid 969 = .ok (.invokevirtual 44, 3) := by decide +kernel
theorem dL_grid_972 : decode cL_grid 972 = .ok (.iconst 1, 1) := by decide +kernel
theorem dL_grid_973 : decode cL_grid 973 = .ok (.if_icmp .ne 77, 3) := by decide +kernel
theorem dL_grid_976 : decode cL_grid 976 = .ok (.aload_n 1, 1) := by decide +kernel
theorem dL_grid_977 : decode cL_grid 977 = .ok (.sipush 155, 3) := by decide +kernel
theorem dL_grid_980 : decode cL_grid 980 = .ok (.invokevirtual 71, 3) := by decide +kernel
theorem dL_grid_983 : decode cL_grid 983 = .ok (.ldc 111, 2) := by decide +kernel
theorem dL_grid_985 : decode cL_grid 985 = .ok (.if_icmp .ne 65, 3) := by decide +kernel
theorem dL_grid_988 : decode cL_grid 988 = .ok (.aload_n 1, 1) := by decide +kernel
theorem dL_grid_989 : decode cL_grid 989 = .ok (.bipush 97, 2) := by decide +kernel
theorem dL_grid_991 : decode cL_grid 991 = .ok (.bipush 105, 2) := by decide +kernel
theorem dL_grid_993 : decode cL_grid 993 = .ok (.bipush 114, 2) := by decide +kernel
theorem dL_grid_995 : decode cL_grid 995 = .ok (.bipush 97, 2) := by decide +kernel
theorem dL_grid_997 : decode cL_grid 997 = .ok (.iconst 3, 1) := by decide +kernel
theorem dL_grid_998 : decode cL_grid 998 = .ok (.invokestatic 112, 3) := by decide +kernel
theorem dL_grid_1001 : decode cL_grid 1001 = .ok (.ifCond .eq 49, 3) := by decide +kernel
theorem dL_grid_1004 : decode cL_grid 1004 = .ok (.aload_n 1, 1) := by decide +kernel
theorem dL_grid_1005 : decode cL_grid 1005 = .ok (.iconst 0, 1) := by decide +kernel
theorem dL_grid_1006 : decode cL_grid 1006 = .ok (.invokevirtual 54, 3) := by decide +kernel
theorem dL_grid_1009 : decode cL_grid 1009 = .ok (.ifCond .ne 41, 3) := by decide +kernel
theorem dL_grid_1012 : decode cL_grid 1012 = .ok (.aload_n 1, 1) := by decide +kernel
theorem dL_grid_1013 : decode cL_grid 1013 = .ok (.iconst 0, 1) := by decide +kernel
theorem dL_grid_1014 : decode cL_grid 1014 = .ok (.iconst 2, 1) := by decide +kernel
theorem dL_grid_1015 : decode cL_grid 1015 = .ok (.invokevirtual 58, 3) := by decide +kernel
theorem dL_grid_1018 : decode cL_grid 1018 = .ok (.bipush 10, 2) := by decide +kernel
theorem dL_grid_1020 : decode cL_grid 1020 = .ok (.if_icmp .ne 30, 3) := by decide +kernel
theorem dL_grid_1023 : decode cL_grid 1023 = .ok (.aload_n 1, 1) := by decide +kernel
theorem dL_grid_1024 : decode cL_grid 1024 = .ok (.iconst 2, 1) := by decide +kernel
theorem dL_grid_1025 : decode cL_grid 1025 = .ok (.invokevirtual 54, 3) := by decide +kernel
theorem dL_grid_1028 : decode cL_grid 1028 = .ok (.ifCond .eq 22, 3) := by decide +kernel
theorem dL_grid_1031 : decode cL_grid 1031 = .ok (.aload_n 1, 1) := by decide +kernel
theorem dL_grid_1032 : decode cL_grid 1032 = .ok (.iconst 2, 1) := by decide +kernel
theorem dL_grid_1033 : decode cL_grid 1033 = .ok (.iconst 2, 1) := by decide +kernel
theorem dL_grid_1034 : decode cL_grid 1034 = .ok (.invokevirtual 58, 3) := by decide +kernel
theorem dL_grid_1037 : decode cL_grid 1037 = .ok (.bipush 16, 2) := by decide +kernel
theorem dL_grid_1039 : decode cL_grid 1039 = .ok (.if_icmp .ne 11, 3) := by decide +kernel
theorem dL_grid_1042 : decode cL_grid 1042 = .ok (.aload_n 1, 1) := by decide +kernel
theorem dL_grid_1043 : decode cL_grid 1043 = .ok (.iconst 3, 1) := by decide +kernel
theorem dL_grid_1044 : decode cL_grid 1044 = .ok (.invokestatic 100, 3) := by decide +kernel
theorem dL_grid_1047 : decode cL_grid 1047 = .ok (.ifCond .ne 5, 3) := by decide +kernel
theorem dL_grid_1050 : decode cL_grid 1050 = .ok (.iconst 0, 1) := by decide +kernel
theorem dL_grid_1051 : decode cL_grid 1051 = .ok (.ireturn, 1) := by decide +kernel
theorem dL_grid_1052 : decode cL_grid 1052 = .ok (.aload_n 1, 1) := by decide +kernel
theorem dL_grid_1053 : decode cL_grid 1053 = .ok (.iconst 2, 1) := by decide +kernel
theorem dL_grid_1054 : decode cL_grid 1054 = .ok (.sipush 300, 3) := by decide +kernel
theorem dL_grid_1057 : decode cL_grid 1057 = .ok (.iconst 5, 1) := by decide +kernel
theorem dL_grid_1058 : decode cL_grid 1058 = .ok (.iconst 0, 1) := by decide +kernel
theorem dL_grid_1059 : decode cL_grid 1059 = .ok (.iconst 0, 1) := by decide +kernel
theorem dL_grid_1060 : decode cL_grid 1060 = .ok (.iconst 0, 1) := by decide +kernel
theorem dL_grid_1061 : decode cL_grid 1061 = .ok (.bipush 31, 2) := by decide +kernel
theorem dL_grid_1063 : decode cL_grid 1063 = .ok (.invokevirtual 13, 3) := by decide +kernel
theorem dL_grid_1066 : decode cL_grid 1066 = .ok (.iconst 3, 1) := by decide +kernel
theorem dL_grid_1067 : decode cL_grid 1067 = .ok (.if_icmp .ne 80, 3) := by decide +kernel
theorem dL_grid_1070 : decode cL_grid 1070 = .ok (.aload_n 1, 1) := by decide +kernel
theorem dL_grid_1071 : decode cL_grid 1071 = .ok (.sipush 300, 3) := by decide +kernel
theorem dL_grid_1074 : decode cL_grid 1074 = .ok (.invokevirtual 71, 3) := by decide +kernel
theorem dL_grid_1077 : decode cL_grid 1077 = .ok (.ifCond .ge 70, 3) := by decide +kernel
theorem dL_grid_1080 : decode cL_grid 1080 = .ok (.aload_n 1, 1) := by decide +kernel
theorem dL_grid_1081 : decode cL_grid 1081 = .ok (.iconst 3, 1) := by decide +kernel
theorem dL_grid_1082 : decode cL_grid 1082 = .ok (.invokevirtual 54, 3) := by decide +kernel
theorem dL_grid_1085 : decode cL_grid 1085 = .ok (.ifCond .eq 62, 3) := by decide +kernel
theorem dL_grid_1088 : decode cL_grid 1088 = .ok (.aload_n 1, 1) := by decide +kernel
theorem dL_grid_1089 : decode cL_grid 1089 = .ok (.iconst 3, 1) := by decide +kernel
theorem dL_grid_1090 : decode cL_grid 1090 = .ok (.iconst 2, 1) := by decide +kernel
theorem dL_grid_1091 : decode cL_grid 1091 = .ok (.invokevirtual 58, 3) := by decide +kernel
theorem dL_grid_1094 : decode cL_grid 1094 = .ok (.iconst (-1), 1) := by decide +kernel
theorem dL_grid_1095 : decode cL_grid 1095 = .ok (.if_icmp .ne 52, 3) := by decide +kernel
theorem dL_grid_1098 : decode cL_grid 1098 = .ok (.aload_n 1, 1) := by decide +kernel
theorem dL_grid_1099 : decode cL_grid 1099 = .ok (.sipush 300, 3) := by decide +kernel
theorem dL_grid_1102 : decode cL_grid 1102 = .ok (.invokevirtual 71, 3) := by decide +kernel
theorem dL_grid_1105 : decode cL_grid 1105 = .ok (.ifCond .ne 42, 3) := by decide +kernel
theorem dL_grid_1108 : decode cL_grid 1108 = .ok (.aload_n 1, 1) := by decide +kernel
theorem dL_grid_1109 : decode cL_grid 1109 = .ok (.iconst 3, 1) := by decide +kernel
theorem dL_grid_1110 : decode cL_grid 1110 = .ok (.invokevirtual 54, 3) := by decide +kernel
theorem dL_grid_1113 : decode cL_grid 1113 = .ok (.ifCond .eq 34, 3) := by decide +kernel
theorem dL_grid_1116 : decode cL_grid 1116 = .ok (.aload_n 1, 1) := by decide +kernel
theorem dL_grid_1117 : decode cL_grid 1117 = .ok (.iconst 3, 1) := by decide +kernel
theorem dL_grid_1118 : decode cL_grid 1118 = .ok (.iconst 2, 1) := by decide +kernel
theorem dL_grid_1119 : decode cL_grid 1119 = .ok (.invokevirtual 58, 3) := by decide +kernel
theorem dL_grid_1122 : decode cL_grid 1122 = .ok (.ifCond .ne 25, 3) := by decide +kernel
theorem dL_grid_1125 : decode cL_grid 1125 = .ok (.aload_n 1, 1) := by decide +kernel
theorem dL_grid_1126 : decode cL_grid 1126 = .ok (.sipush 304, 3) := by decide +kernel
theorem dL_grid_1129 : decode cL_grid 1129 = .ok (.invokevirtual 71, 3) := by decide +kernel
theorem dL_grid_1132 : decode cL_grid 1132 = .ok (.iconst 1, 1) := by decide +kernel
theorem dL_grid_1133 : decode cL_grid 1133 = .ok (.if_icmp .ne 14, 3) := by decide +kernel
theorem dL_grid_1136 : decode cL_grid 1136 = .ok (.aload_n 1, 1) := by decide +kernel
theorem dL_grid_1137 : decode cL_grid 1137 = .ok (.invokevirtual 74, 3) := by decide +kernel
theorem dL_grid_1140 : decode cL_grid 1140 = .ok (.ifCond .eq 7, 3) := by decide +kernel
theorem dL_grid_1143 : decode cL_grid 1143 = .ok (.iconst 1, 1) := by decide +kernel
theorem dL_grid_1144 : decode cL_grid 1144 = .ok (.goto 4, 3) := by decide +kernel
theorem dL_grid_1147 : decode cL_grid 1147 = .ok (.iconst 0, 1) := by decide +kernel
theorem dL_grid_1148 : decode cL_grid 1148 = .ok (.ireturn, 1) := by decide +kernel
theorem dL_sounds_0 : decode cL_sounds 0 = .ok (.new 8, 3) := by decide +kernel
theorem dL_sounds_3 : decode cL_sounds 3 = .ok (.dup, 1) := by decide +kernel
theorem dL_sounds_4 : decode cL_sounds 4 = .ok (.invokespecial 99, 3) := by decide +kernel
theorem dL_sounds_7 : decode cL_sounds 7 = .ok (.astore_n 0, 1) := by decide +kernel
theorem dL_sounds_8 : decode cL_sounds 8 = .ok (.aload_n 0, 1) := by decide +kernel
theorem dL_sounds_9 : decode cL_sounds 9 = .ok (.iconst 0, 1) := by decide +kernel
theorem dL_sounds_10 : decode cL_sounds 10 = .ok (.invokevirtual 30, 3) := by decide +kernel
theorem dL_sounds_13 : decode cL_sounds 13 = .ok (.iconst 1, 1) := by decide +kernel
theorem dL_sounds_14 : decode cL_sounds 14 = .ok (.if_icmp .ne 367, 3) := by decide +kernel
theorem dL_sounds_17 : decode cL_sounds 17 = .ok (.aload_n 0, 1) := by decide +kernel
theorem dL_sounds_18 : decode cL_sounds 18 = .ok (.iconst 0, 1) := by decide +kernel
theorem dL_sounds_19 : decode cL_sounds 19 = .ok (.sipush 590, 3) := by decide +kernel
theorem dL_sounds_22 : decode cL_sounds 22 = .ok (.bipush 10, 2) := by decide +kernel
theorem dL_sounds_24 : decode cL_sounds 24 = .ok (.iconst 0, 1) := by decide +kernel
theorem dL_sounds_25 : decode cL_sounds 25 = .ok (.bipush 90, 2) := by decide +kernel
theorem dL_sounds_27 : decode cL_sounds 27 = .ok (.bipush 70, 2) := by decide +kernel
theorem dL_sounds_29 : decode cL_sounds 29 = .ok (.iconst (-1), 1) := by decide +kernel
theorem dL_sounds_30 : decode cL_sounds 30 = .ok (.invokevirtual 13, 3) := by decide +kernel
theorem dL_sounds_33 : decode cL_sounds 33 = .ok (.ifCond .ne 348, 3) := by decide +kernel
theorem dL_sounds_36 : decode cL_sounds 36 = .ok (.aload_n 0, 1) := by decide +kernel
theorem dL_sounds_37 : decode cL_sounds 37 = .ok (.sipush 590, 3) := by decide +kernel
theorem dL_sounds_40 : decode cL_sounds 40 = .ok (.iconst 0, 1) := by decide +kernel
theorem dL_sounds_41 : decode cL_sounds 41 = .ok (.invokevirtual 68, 3) := by decide +kernel
theorem dL_sounds_44 : decode cL_sounds 44 = .ok (.bipush 60, 2) := by decide +kernel
theorem dL_sounds_46 : decode cL_sounds 46 = .ok (.if_icmp .ne 335, 3) := by decide +kernel
theorem dL_sounds_49 : decode cL_sounds 49 = .ok (.aload_n 0, 1) := by decide +kernel
theorem dL_sounds_50 : decode cL_sounds 50 = .ok (.sipush 599, 3) := by decide +kernel
theorem dL_sounds_53 : decode cL_sounds 53 = .ok (.iconst 1, 1) := by decide +kernel
theorem dL_sounds_54 : decode cL_sounds 54 = .ok (.invokevirtual 68, 3) := by decide +kernel
theorem dL_sounds_57 : decode cL_sounds 57 = .ok (.bipush 50, 2) := by decide +kernel
theorem dL_sounds_59 : decode cL_sounds 59 = .ok (.if_icmp .ne 322, 3) := by decide +kernel
theorem dL_sounds_62 : decode cL_sounds 62 = .ok (.aload_n 0, 1) := by decide +kernel
theorem dL_sounds_63 : decode cL_sounds 63 = .ok (.sipush 590, 3) := by decide +kernel
theorem dL_sounds_66 : decode cL_sounds 66 = .ok (.iconst 2, 1) := by decide +kernel
theorem dL_sounds_67 : decode cL_sounds 67 = .ok (.invokevirtual 68, 3) := by decide +kernel
theorem dL_sounds_70 : decode cL_sounds 70 = .ok (.bipush 40, 2) := by decide +kernel
theorem dL_sounds_72 : decode cL_sounds 72 = .ok (.if_icmp .ne 309, 3) := by decide +kernel
theorem dL_sounds_75 : decode cL_sounds 75 = .ok (.aload_n 0, 1) := by decide +kernel
theorem dL_sounds_76 : decode cL_sounds 76 = .ok (.sipush 600, 3) := by decide +kernel
theorem dL_sounds_79 : decode cL_sounds 79 = .ok (.iconst 0, 1) := by decide +kernel
theorem dL_sounds_80 : decode cL_sounds 80 = .ok (.invokevirtual 68, 3) := by decide +kernel
theorem dL_sounds_83 : decode cL_sounds 83 = .ok (.ifCond .ne 298, 3) := by decide +kernel
theorem dL_sounds_86 : decode cL_sounds 86 = .ok (.aload_n 0, 1) := by decide +kernel
theorem dL_sounds_87 : decode cL_sounds 87 = .ok (.iconst 1, 1) := by decide +kernel
theorem dL_sounds_88 : decode cL_sounds 88 = .ok (.iconst 2, 1) := by decide +kernel
theorem dL_sounds_89 : decode cL_sounds 89 = .ok (.sipush 595, 3) := by decide +kernel
theorem dL_sounds_92 : decode cL_sounds 92 = .ok (.iconst 3, 1) := by decide +kernel
theorem dL_sounds_93 : decode cL_sounds 93 = .ok (.iconst 1, 1) := by decide +kernel
theorem dL_sounds_94 : decode cL_sounds 94 = .ok (.iconst 0, 1) := by decide +kernel
theorem dL_sounds_95 : decode cL_sounds 95 = .ok (.bipush 21, 2) := by decide +kernel
theorem dL_sounds_97 : decode cL_sounds 97 = .ok (.iconst (-1), 1) := by decide +kernel
theorem dL_sounds_98 : decode cL_sounds 98 = .ok (.invokestatic 88, 3) := by decide +kernel
theorem dL_sounds_101 : decode cL_sounds 101 = .ok (.ifCond .ne 280, 3) := by decide +kernel
theorem dL_sounds_104 : decode cL_sounds 104 = .ok (.aload_n 0, 1) := by decide +kernel
theorem dL_sounds_105 : decode cL_sounds 105 = .ok (.iconst 1, 1) := by decide +kernel
theorem dL_sounds_106 : decode cL_sounds 106 = .ok (.iconst 2, 1) := by decide +kernel
theorem dL_sounds_107 : decode cL_sounds 107 = .ok (.sipush 595, 3) := by decide +kernel
theorem dL_sounds_110 : decode cL_sounds 110 = .ok (.iconst 3, 1) := by decide +kernel
theorem dL_sounds_111 : decode cL_sounds 111 = .ok (.iconst 1, 1) := by decide +kernel
theorem dL_sounds_112 : decode cL_sounds 112 = .ok (.iconst 0, 1) := by decide +kernel
theorem dL_sounds_113 : decode cL_sounds 113 = .ok (.bipush 31, 2) := by decide +kernel
theorem dL_sounds_115 : decode cL_sounds 115 = .ok (.iconst (-1), 1) := by decide +kernel
theorem dL_sounds_116 : decode cL_sounds 116 = .ok (.invokestatic 88, 3) := by decide +kernel
theorem dL_sounds_119 : decode cL_sounds 119 = .ok (.iconst 4, 1) := by decide +kernel
theorem dL_sounds_120 : decode cL_sounds 120 = .ok (.if_icmp .ne 261, 3) := by decide +kernel
theorem dL_sounds_123 : decode cL_sounds 123 = .ok (.aload_n 0, 1) := by decide +kernel
theorem dL_sounds_124 : decode cL_sounds 124 = .ok (.iconst 1, 1) := by decide +kernel
theorem dL_sounds_125 : decode cL_sounds 125 = .ok (.iconst 1, 1) := by decide +kernel
theorem dL_sounds_126 : decode cL_sounds 126 = .ok (.iconst 0, 1) := by decide +kernel
theorem dL_sounds_127 : decode cL_sounds 127 = .ok (.iconst 3, 1) := by decide +kernel
theorem dL_sounds_128 : decode cL_sounds 128 = .ok (.iconst 1, 1) := by decide +kernel
theorem dL_sounds_129 : decode cL_sounds 129 = .ok (.iconst 0, 1) := by decide +kernel
theorem dL_sounds_130 : decode cL_sounds 130 = .ok (.bipush 71, 2) := by decide +kernel
theorem dL_sounds_132 : decode cL_sounds 132 = .ok (.iconst (-1), 1) := by decide +kernel
theorem dL_sounds_133 : decode cL_sounds 133 = .ok (.invokestatic 88, 3) := by decide +kernel
theorem dL_sounds_136 : decode cL_sounds 136 = .ok (.iconst 4, 1) := by decide +kernel
theorem dL_sounds_137 : decode cL_sounds 137 = .ok (.if_icmp .ne 244, 3) := by decide +kernel
theorem dL_sounds_140 : decode cL_sounds 140 = .ok (.aload_n 0, 1) := by decide +kernel
theorem dL_sounds_141 : decode cL_sounds 141 = .ok (.iconst 1, 1) := by decide +kernel
theorem dL_sounds_142 : decode cL_sounds 142 = .ok (.iconst 1, 1) := by decide +kernel
theorem dL_sounds_143 : decode cL_sounds 143 = .ok (.iconst 0, 1) := by decide +kernel
theorem dL_sounds_144 : decode cL_sounds 144 = .ok (.iconst 3, 1) := by decide +kernel
theorem dL_sounds_145 : decode cL_sounds 145 = .ok (.iconst 1, 1) := by decide +kernel
theorem dL_sounds_146 : decode cL_sounds 146 = .ok (.iconst 0, 1) := by decide +kernel
theorem dL_sounds_147 : decode cL_sounds 147 = .ok (.bipush 70, 2) := by decide +kernel
theorem dL_sounds_149 : decode cL_sounds 149 = .ok (.iconst (-1), 1) := by decide +kernel
theorem dL_sounds_150 : decode cL_sounds 150 = .ok (.invokestatic 88, 3) := by decide +kernel
theorem dL_sounds_153 : decode cL_sounds 153 = .ok (.ifCond .ne 228, 3) := by decide +kernel
theorem dL_sounds_156 : decode cL_sounds 156 = .ok (.aload_n 0, 1) := by decide +kernel
theorem dL_sounds_157 : decode cL_sounds 157 = .ok (.iconst 1, 1) := by decide +kernel
theorem dL_sounds_158 : decode cL_sounds 158 = .ok (.iconst 1, 1) := by decide +kernel
theorem dL_sounds_159 : decode cL_sounds 159 = .ok (.sipush 600, 3) := by decide +kernel
theorem dL_sounds_162 : decode cL_sounds 162 = .ok (.iconst 3, 1) := by decide +kernel
theorem dL_sounds_163 : decode cL_sounds 163 = .ok (.iconst 1, 1) := by decide +kernel
theorem dL_sounds_164 : decode cL_sounds 164 = .ok (.iconst 0, 1) := by decide +kernel
theorem dL_sounds_165 : decode cL_sounds 165 = .ok (.bipush 61, 2) := by decide +kernel
theorem dL_sounds_167 : decode cL_sounds 167 = .ok (.iconst (-1), 1) := by decide +kernel
theorem dL_sounds_168 : decode cL_sounds 168 = .ok (.invokestatic 88, 3) := by decide +kernel
theorem dL_sounds_171 : decode cL_sounds 171 = .ok (.iconst 4, 1) := by decide +kernel
theorem dL_sounds_172 : decode cL_sounds 172 = .ok (.if_icmp .ne 209, 3) := by decide +kernel
theorem dL_sounds_175 : decode cL_sounds 175 = .ok (.aload_n 0, 1) := by decide +kernel
theorem dL_sounds_176 : decode cL_sounds 176 = .ok (.iconst 1, 1) := by decide +kernel
theorem dL_sounds_177 : decode cL_sounds 177 = .ok (.iconst 1, 1) := by decide +kernel
theorem dL_sounds_178 : decode cL_sounds 178 = .ok (.sipush 600, 3) := by decide +kernel
theorem dL_sounds_181 : decode cL_sounds 181 = .ok (.iconst 3, 1) := by decide +kernel
theorem dL_sounds_182 : decode cL_sounds 182 = .ok (.iconst 1, 1) := by decide +kernel
theorem dL_sounds_183 : decode cL_sounds 183 = .ok (.iconst 0, 1) := by decide +kernel
theorem dL_sounds_184 : decode cL_sounds 184 = .ok (.bipush 60, 2) := by decide +kernel
theorem dL_sounds_186 : decode cL_sounds 186 = .ok (.iconst (-1), 1) := by decide +kernel
theorem dL_sounds_187 : decode cL_sounds 187 = .ok (.invokestatic 88, 3) := by decide +kernel
theorem dL_sounds_190 : decode cL_sounds 190 = .ok (.ifCond .ne 191, 3) := by decide +kernel
theorem dL_sounds_193 : decode cL_sounds 193 = .ok (.aload_n 0, 1) := by decide +kernel
theorem dL_sounds_194 : decode cL_sounds 194 = .ok (.iconst 0, 1) := by decide +kernel
theorem dL_sounds_195 : decode cL_sounds 195 = .ok (.sipush 591, 3) := by decide +kernel
theorem dL_sounds_198 : decode cL_sounds 198 = .ok (.invokevirtual 44, 3) := by decide +kernel
theorem dL_sounds_201 : decode cL_sounds 201 = .ok (.ifCond .ne 180, 3) := by decide +kernel
theorem dL_sounds_204 : decode cL_sounds 204 = .ok (.aload_n 0, 1) := by decide +kernel
theorem dL_sounds_205 : decode cL_sounds 205 = .ok (.iconst 0, 1) := by decide +kernel
theorem dL_sounds_206 : decode cL_sounds 206 = .ok (.sipush 591, 3) := by decide +kernel
theorem dL_sounds_209 : decode cL_sounds 209 = .ok (.invokevirtual 50, 3) := by decide +kernel
theorem dL_sounds_212 : decode cL_sounds 212 = .ok (.iconst (-1), 1) := by decide +kernel
theorem dL_sounds_213 : decode cL_sounds 213 = .ok (.if_icmp .ne 168, 3) := by decide +kernel
theorem dL_sounds_216 : decode cL_sounds 216 = .ok (.aload_n 0, 1) := by decide +kernel
theorem dL_sounds_217 : decode cL_sounds 217 = .ok (.iconst 0, 1) := by decide +kernel
theorem dL_sounds_218 : decode cL_sounds 218 = .ok (.bipush 70, 2) := by decide +kernel
theorem dL_sounds_220 : decode cL_sounds 220 = .ok (.invokevirtual 38, 3) := by decide +kernel
theorem dL_sounds_223 : decode cL_sounds 223 = .ok (.ifCond .eq 158, 3) := by decide +kernel
theorem dL_sounds_226 : decode cL_sounds 226 = .ok (.aload_n 0, 1) := by decide +kernel
theorem dL_sounds_227 : decode cL_sounds 227 = .ok (.iconst 1, 1) := by decide +kernel
theorem dL_sounds_228 : decode cL_sounds 228 = .ok (.bipush 60, 2) := by decide +kernel
theorem dL_sounds_230 : decode cL_sounds 230 = .ok (.invokevirtual 38, 3) := by decide +kernel
theorem dL_sounds_233 : decode cL_sounds 233 = .ok (.ifCond .eq 148, 3) := by decide +kernel
theorem dL_sounds_236 : decode cL_sounds 236 = .ok (.aload_n 0, 1) := by decide +kernel
theorem dL_sounds_237 : decode cL_sounds 237 = .ok (.iconst 0, 1) := by decide +kernel
theorem dL_sounds_238 : decode cL_sounds 238 = .ok (.sipush 591, 3) := by decide +kernel
theorem dL_sounds_241 : decode cL_sounds 241 = .ok (.invokevirtual 44, 3) := by decide +kernel
theorem dL_sounds_244 : decode cL_sounds 244 = .ok (.ifCond .eq 137, 3) := by decide +kernel
theorem dL_sounds_247 : decode cL_sounds 247 = .ok (.aload_n 0, 1) := by decide +kernel
theorem dL_sounds_248 : decode cL_sounds 248 = .ok (.sipush 600, 3) := by decide +kernel
theorem dL_sounds_251 : decode cL_sounds 251 = .ok (.iconst 0, 1) := by decide +kernel
theorem dL_sounds_252 : decode cL_sounds 252 = .ok (.invokevirtual 68, 3) := by decide +kernel
theorem dL_sounds_255 : decode cL_sounds 255 = .ok (.bipush 60, 2) := by decide +kernel
theorem dL_sounds_257 : decode cL_sounds 257 = .ok (.if_icmp .ne 124, 3) := by decide +kernel
theorem dL_sounds_260 : decode cL_sounds 260 = .ok (.aload_n 0, 1) := by decide +kernel
theorem dL_sounds_261 : decode cL_sounds 261 = .ok (.iconst 0, 1) := by decide +kernel
theorem dL_sounds_262 : decode cL_sounds 262 = .ok (.bipush 69, 2) := by decide +kernel
theorem dL_sounds_264 : decode cL_sounds 264 = .ok (.invokevirtual 38, 3) := by decide +kernel
theorem dL_sounds_267 : decode cL_sounds 267 = .ok (.ifCond .ne 114, 3) := by decide +kernel
theorem dL_sounds_270 : decode cL_sounds 270 = .ok (.aload_n 0, 1) := by decide +kernel
theorem dL_sounds_271 : decode cL_sounds 271 = .ok (.bipush 9, 2) := by decide +kernel
theorem dL_sounds_273 : decode cL_sounds 273 = .ok (.iconst (-1), 1) := by decide +kernel
theorem dL_sounds_274 : decode cL_sounds 274 = .ok (.invokevirtual 41, 3) := by decide +kernel
theorem dL_sounds_277 : decode cL_sounds 277 = .ok (.iconst 1, 1) := by decide +kernel
theorem dL_sounds_278 : decode cL_sounds 278 = .ok (.if_icmp .ne 103, 3) := by decide +kernel
theorem dL_sounds_281 : decode cL_sounds 281 = .ok (.aload_n 0, 1) := by decide +kernel
theorem dL_sounds_282 : decode cL_sounds 282 = .ok (.sipush 591, 3) := by decide +kernel
theorem dL_sounds_285 : decode cL_sounds 285 = .ok (.iconst 0, 1) := by decide +kernel
theorem dL_sounds_286 : decode cL_sounds 286 = .ok (.invokevirtual 68, 3) := by decide +kernel
theorem dL_sounds_289 : decode cL_sounds 289 = .ok (.bipush 61, 2) := by decide +kernel
theorem dL_sounds_291 : decode cL_sounds 291 = .ok (.if_icmp .ne 90, 3) := by decide +kernel
theorem dL_sounds_294 : decode cL_sounds 294 = .ok (.aload_n 0, 1) := by decide +kernel
theorem dL_sounds_295 : decode cL_sounds 295 = .ok (.bipush 10, 2) := by decide +kernel
theorem dL_sounds_297 : decode cL_sounds 297 = .ok (.iconst (-1), 1) := by decide +kernel
theorem dL_sounds_298 : decode cL_sounds 298 = .ok (.invokevirtual 41, 3) := by decide +kernel
theorem dL_sounds_301 : decode cL_sounds 301 = .ok (.ifCond .ne 80, 3) := by decide +kernel
theorem dL_sounds_304 : decode cL_sounds 304 = .ok (.aload_n 0, 1) := by decide +kernel
theorem dL_sounds_305 : decode cL_sounds 305 = .ok (.bipush 10, 2) := by decide +kernel
theorem dL_sounds_307 : decode cL_sounds 307 = .ok (.iconst 5, 1) := by decide +kernel
theorem dL_sounds_308 : decode cL_sounds 308 = .ok (.invokevirtual 41, 3) := by decide +kernel
theorem dL_sounds_311 : decode cL_sounds 311 = .ok (.iconst 1, 1) := by decide +kernel
theorem dL_sounds_312 : decode cL_sounds 312 = .ok (.if_icmp .ne 69, 3) := by decide +kernel
theorem dL_sounds_315 : decode cL_sounds 315 = .ok (.aload_n 0, 1) := by decide +kernel
theorem dL_sounds_316 : decode cL_sounds 316 = .ok (.sipush 600, 3) := by decide +kernel
theorem dL_sounds_319 : decode cL_sounds 319 = .ok (.iconst 0, 1) := by decide +kernel
theorem dL_sounds_320 : decode cL_sounds 320 = .ok (.invokevirtual 68, 3) := by decide +kernel
theorem dL_sounds_323 : decode cL_sounds 323 = .ok (.bipush 55, 2) := by decide +kernel
theorem dL_sounds_325 : decode cL_sounds 325 = .ok (.if_icmp .ne 56, 3) := by decide +kernel
theorem dL_sounds_328 : decode cL_sounds 328 = .ok (.aload_n 0, 1) := by decide +kernel
theorem dL_sounds_329 : decode cL_sounds 329 = .ok (.sipush 600, 3) := by decide +kernel
theorem dL_sounds_332 : decode cL_sounds 332 = .ok (.iconst 2, 1) := by decide +kernel
theorem dL_sounds_333 : decode cL_sounds 333 = .ok (.invokevirtual 68, 3) := by decide +kernel
theorem dL_sounds_336 : decode cL_sounds 336 = .ok (.bipush 35, 2) := by decide +kernel
theorem dL_sounds_338 : decode cL_sounds 338 = .ok (.if_icmp .ne 43, 3) := by decide +kernel
theorem dL_sounds_341 : decode cL_sounds 341 = .ok (.aload_n 0, 1) := by decide +kernel
theorem dL_sounds_342 : decode cL_sounds 342 = .ok (.iconst 2, 1) := by decide +kernel
theorem dL_sounds_343 : decode cL_sounds 343 = .ok (.bipush 10, 2) := by decide +kernel
theorem dL_sounds_345 : decode cL_sounds 345 = .ok (.invokevirtual 38, 3) := by decide +kernel
theorem dL_sounds_348 : decode cL_sounds 348 = .ok (.ifCond .ne 33, 3) := by decide +kernel
theorem dL_sounds_351 : decode cL_sounds 351 = .ok (.aload_n 0, 1) := by decide +kernel
theorem dL_sounds_352 : decode cL_sounds 352 = .ok (.bipush 16, 2) := by decide +kernel
theorem dL_sounds_354 : decode cL_sounds 354 = .ok (.bipush 10, 2) := by decide +kernel
theorem dL_sounds_356 : decode cL_sounds 356 = .ok (.invokevirtual 41, 3) := by decide +kernel
theorem dL_sounds_359 : decode cL_sounds 359 = .ok (.ifCond .eq 22, 3) := by decide +kernel
theorem dL_sounds_362 : decode cL_sounds 362 = .ok (.aload_n 0, 1) := by decide +kernel
theorem dL_sounds_363 : decode cL_sounds 363 = .ok (.iconst 0, 1) := by decide +kernel
theorem dL_sounds_364 : decode cL_sounds 364 = .ok (.bipush (-10), 2) := by decide +kernel
theorem dL_sounds_366 : decode cL_sounds 366 = .ok (.invokevirtual 41, 3) := by decide +kernel
theorem dL_sounds_369 : decode cL_sounds 369 = .ok (.ifCond .eq 12, 3) := by decide +kernel
theorem dL_sounds_372 : decode cL_sounds 372 = .ok (.aload_n 0, 1) := by decide +kernel
theorem dL_sounds_373 : decode cL_sounds 373 = .ok (.iconst 0, 1) := by decide +kernel
theorem dL_sounds_374 : decode cL_sounds 374 = .ok (.iconst 0, 1) := by decide +kernel
theorem dL_sounds_375 : decode cL_sounds 375 = .ok (.invokevirtual 68, 3) := by decide +kernel
theorem dL_sounds_378 : decode cL_sounds 378 = .ok (.ifCond .eq 5, 3) := by decide +kernel
theorem dL_sounds_381 : decode cL_sounds 381 = .ok (.iconst 0, 1) := by decide +kernel
theorem dL_sounds_382 : decode cL_sounds 382 = .ok (.ireturn, 1) := by decide +kernel
theorem dL_sounds_383 : decode cL_sounds 383 = .ok (.aload_n 0, 1) := by decide +kernel
theorem dL_sounds_384 : decode cL_sounds 384 = .ok (.bipush 7, 2) := by decide +kernel
theorem dL_sounds_386 : decode cL_sounds 386 = .ok (.iconst 0, 1) := by decide +kernel
theorem dL_sounds_387 : decode cL_sounds 387 = .ok (.iconst 0, 1) := by decide +kernel
theorem dL_sounds_388 : decode cL_sounds 388 = .ok (.iconst 0, 1) := by decide +kernel
theorem dL_sounds_389 : decode cL_sounds 389 = .ok (.invokestatic 79, 3) := by decide +kernel
theorem dL_sounds_392 : decode cL_sounds 392 = .ok (.bipush (-73), 2) := by decide +kernel
theorem dL_sounds_394 : decode cL_sounds 394 = .ok (.if_icmp .ne 330, 3) := by decide +kernel
theorem dL_sounds_397 : decode cL_sounds 397 = .ok (.aload_n 0, 1) := by decide +kernel
theorem dL_sounds_398 : decode cL_sounds 398 = .ok (.bipush 108, 2) := by decide +kernel
theorem dL_sounds_400 : decode cL_sounds 400 = .ok (.bipush 111, 2) := by decide +kernel
theorem dL_sounds_402 : decode cL_sounds 402 = .ok (.bipush 117, 2) := by decide +kernel
theorem dL_sounds_404 : decode cL_sounds 404 = .ok (.bipush 100, 2) := by decide +kernel
theorem dL_sounds_406 : decode cL_sounds 406 = .ok (.iconst 4, 1) := by decide +kernel
theorem dL_sounds_407 : decode cL_sounds 407 = .ok (.invokestatic 112, 3) := by decide +kernel
theorem dL_sounds_410 : decode cL_sounds 410 = .ok (.ifCond .eq 314, 3) := by decide +kernel
theorem dL_sounds_413 : decode cL_sounds 413 = .ok (.aload_n 0, 1) := by decide +kernel
theorem dL_sounds_414 : decode cL_sounds 414 = .ok (.iconst 0, 1) := by decide +kernel
theorem dL_sounds_415 : decode cL_sounds 415 = .ok (.invokevirtual 54, 3) := by decide +kernel
theorem dL_sounds_418 : decode cL_sounds 418 = .ok (.ifCond .eq 306, 3) := by decide +kernel
theorem dL_sounds_421 : decode cL_sounds 421 = .ok (.aload_n 0, 1) := by decide +kernel
theorem dL_sounds_422 : decode cL_sounds 422 = .ok (.iconst 0, 1) := by decide +kernel
theorem dL_sounds_423 : decode cL_sounds 423 = .ok (.bipush 90, 2) := by decide +kernel
theorem dL_sounds_425 : decode cL_sounds 425 = .ok (.bipush 75, 2) := by decide +kernel
theorem dL_sounds_427 : decode cL_sounds 427 = .ok (.iconst (-1), 1) := by decide +kernel
theorem dL_sounds_428 : decode cL_sounds 428 = .ok (.invokestatic 104, 3) := by decide +kernel
theorem dL_sounds_431 : decode cL_sounds 431 = .ok (.ifCond .eq 293, 3) := by decide +kernel
theorem dL_sounds_434 : decode cL_sounds 434 = .ok (.aload_n 0, 1) := by decide +kernel
theorem dL_sounds_435 : decode cL_sounds 435 = .ok (.sipush 600, 3) := by decide +kernel
theorem dL_sounds_438 : decode cL_sounds 438 = .ok (.iconst 0, 1) := by decide +kernel
theorem dL_sounds_439 : decode cL_sounds 439 = .ok (.invokevirtual 68, 3) := by decide +kernel
theorem dL_sounds_442 : decode cL_sounds 442 = .ok (.bipush 60, 2) := by decide +kernel
theorem dL_sounds_444 : decode cL_sounds 444 = .ok (.if_icmp .ne 280, 3) := by decide +kernel
theorem dL_sounds_447 : decode cL_sounds 447 = .ok (.aload_n 0, 1) := by decide +kernel
theorem dL_sounds_448 : decode cL_sounds 448 = .ok (.iconst 0, 1) := by decide +kernel
theorem dL_sounds_449 : decode cL_sounds 449 = .ok (.invokevirtual 54, 3) := by decide +kernel
theorem dL_sounds_452 : decode cL_sounds 452 = .ok (.ifCond .ne 272, 3) := by decide +kernel
theorem dL_sounds_455 : decode cL_sounds 455 = .ok (.aload_n 0, 1) := by decide +kernel
theorem dL_sounds_456 : decode cL_sounds 456 = .ok (.iconst 0, 1) := by decide +kernel
theorem dL_sounds_457 : decode cL_sounds 457 = .ok (.bipush 90, 2) := by decide +kernel
theorem dL_sounds_459 : decode cL_sounds 459 = .ok (.bipush 75, 2) := by decide +kernel
theorem dL_sounds_461 : decode cL_sounds 461 = .ok (.iconst (-1), 1) := by decide +kernel
theorem dL_sounds_462 : decode cL_sounds 462 = .ok (.invokestatic 104, 3) := by decide +kernel
theorem dL_sounds_465 : decode cL_sounds 465 = .ok (.ifCond .eq 259, 3) := by decide +kernel
theorem dL_sounds_468 : decode cL_sounds 468 = .ok (.aload_n 0, 1) := by decide +kernel
theorem dL_sounds_469 : decode cL_sounds 469 = .ok (.bipush 115, 2) := by decide +kernel
theorem dL_sounds_471 : decode cL_sounds 471 = .ok (.bipush 111, 2) := by decide +kernel
theorem dL_sounds_473 : decode cL_sounds 473 = .ok (.bipush 102, 2) := by decide +kernel
theorem dL_sounds_475 : decode cL_sounds 475 = .ok (.bipush 116, 2) := by decide +kernel
theorem dL_sounds_477 : decode cL_sounds 477 = .ok (.iconst 4, 1) := by decide +kernel
theorem dL_sounds_478 : decode cL_sounds 478 = .ok (.invokestatic 112, 3) := by decide +kernel
theorem dL_sounds_481 : decode cL_sounds 481 = .ok (.ifCond .eq 243, 3) := by decide +kernel
theorem dL_sounds_484 : decode cL_sounds 484 = .ok (.aload_n 0, 1) := by decide +kernel
theorem dL_sounds_485 : decode cL_sounds 485 = .ok (.iconst 0, 1) := by decide +kernel
theorem dL_sounds_486 : decode cL_sounds 486 = .ok (.invokevirtual 54, 3) := by decide +kernel
theorem dL_sounds_489 : decode cL_sounds 489 = .ok (.ifCond .eq 235, 3) := by decide +kernel
theorem dL_sounds_492 : decode cL_sounds 492 = .ok (.aload_n 0, 1) := by decide +kernel
theorem dL_sounds_493 : decode cL_sounds 493 = .ok (.iconst 0, 1) := by decide +kernel
theorem dL_sounds_494 : decode cL_sounds 494 = .ok (.invokevirtual 54, 3) := by decide +kernel
theorem dL_sounds_497 : decode cL_sounds 497 = .ok (.ifCond .eq 227, 3) := by decide +kernel
theorem dL_sounds_500 : decode cL_sounds 500 = .ok (.aload_n 0, 1) := by decide +kernel
theorem dL_sounds_501 : decode cL_sounds 501 = .ok (.iconst 0, 1) := by decide +kernel
theorem dL_sounds_502 : decode cL_sounds 502 = .ok (.bipush 90, 2) := by decide +kernel
theorem dL_sounds_504 : decode cL_sounds 504 = .ok (.bipush 65, 2) := by decide +kernel
theorem dL_sounds_506 : decode cL_sounds 506 = .ok (.iconst (-1), 1) := by decide +kernel
theorem dL_sounds_507 : decode cL_sounds 507 = .ok (.invokestatic 104, 3) := by decide +kernel
theorem dL_sounds_510 : decode cL_sounds 510 = .ok (.ifCond .eq 214, 3) := by decide +kernel
theorem dL_sounds_513 : decode cL_sounds 513 = .ok (.aload_n 0, 1) := by decide +kernel
theorem dL_sounds_514 : decode cL_sounds 514 = .ok (.bipush 100, 2) := by decide +kernel
theorem dL_sounds_516 : decode cL_sounds 516 = .ok (.bipush 97, 2) := by decide +kernel
theorem dL_sounds_518 : decode cL_sounds 518 = .ok (.bipush 114, 2) := by decide +kernel
theorem dL_sounds_520 : decode cL_sounds 520 = .ok (.bipush 107, 2) := by decide +kernel
theorem dL_sounds_522 : decode cL_sounds 522 = .ok (.iconst 4, 1) := by decide +kernel
theorem dL_sounds_523 : decode cL_sounds 523 = .ok (.invokestatic 112, 3) := by decide +kernel
theorem dL_sounds_526 : decode cL_sounds 526 = .ok (.ifCond .eq 198, 3) := by decide +kernel
theorem dL_sounds_529 : decode cL_sounds 529 = .ok (.aload_n 0, 1) := by decide +kernel
theorem dL_sounds_530 : decode cL_sounds 530 = .ok (.iconst 0, 1) := by decide +kernel
theorem dL_sounds_531 : decode cL_sounds 531 = .ok (.invokevirtual 54, 3) := by decide +kernel
theorem dL_sounds_534 : decode cL_sounds 534 = .ok (.ifCond .eq 190, 3) := by decide +kernel
theorem dL_sounds_537 : decode cL_sounds 537 = .ok (.aload_n 0, 1) := by decide +kernel
theorem dL_sounds_538 : decode cL_sounds 538 = .ok (.iconst 0, 1) := by decide +kernel
theorem dL_sounds_539 : decode cL_sounds 539 = .ok (.bipush 70, 2) := by decide +kernel
theorem dL_sounds_541 : decode cL_sounds 541 = .ok (.bipush 65, 2) := by decide +kernel
theorem dL_sounds_543 : decode cL_sounds 543 = .ok (.iconst (-1), 1) := by decide +kernel
theorem dL_sounds_544 : decode cL_sounds 544 = .ok (.invokestatic 104, 3) := by decide +kernel
theorem dL_sounds_547 : decode cL_sounds 547 = .ok (.ifCond .eq 177, 3) := by decide +kernel
theorem dL_sounds_550 : decode cL_sounds 550 = .ok (.aload_n 0, 1) := by decide +kernel
theorem dL_sounds_551 : decode cL_sounds 551 = .ok (.invokevirtual 95, 3) := by decide +kernel
theorem dL_sounds_554 : decode cL_sounds 554 = .ok (.iconst 4, 1) := by decide +kernel
theorem dL_sounds_555 : decode cL_sounds 555 = .ok (.if_icmp .ne 169, 3) := by decide +kernel
theorem dL_sounds_558 : decode cL_sounds 558 = .ok (.aload_n 0, 1) := by decide +kernel
theorem dL_sounds_559 : decode cL_sounds 559 = .ok (.invokevirtual 95, 3) := by decide +kernel
theorem dL_sounds_562 : decode cL_sounds 562 = .ok (.ifCond .ne 162, 3) := by decide +kernel
theorem dL_sounds_565 : decode cL_sounds 565 = .ok (.aload_n 0, 1) := by decide +kernel
theorem dL_sounds_566 : decode cL_sounds 566 = .ok (.bipush 108, 2) := by decide +kernel
theorem dL_sounds_568 : decode cL_sounds 568 = .ok (.invokevirtual 26, 3) := by decide +kernel
theorem dL_sounds_571 : decode cL_sounds 571 = .ok (.iconst 1, 1) := by decide +kernel
theorem dL_sounds_572 : decode cL_sounds 572 = .ok (.if_icmp .ne 152, 3) := by decide +kernel
theorem dL_sounds_575 : decode cL_sounds 575 = .ok (.aload_n 0, 1) := by decide +kernel
theorem dL_sounds_576 : decode cL_sounds 576 = .ok (.bipush 105, 2) := by decide +kernel
theorem dL_sounds_578 : decode cL_sounds 578 = .ok (.invokevirtual 26, 3) := by decide +kernel
theorem dL_sounds_581 : decode cL_sounds 581 = .ok (.iconst 2, 1) := by decide +kernel
theorem dL_sounds_582 : decode cL_sounds 582 = .ok (.if_icmp .ne 142, 3) := by decide +kernel
theorem dL_sounds_585 : decode cL_sounds 585 = .ok (.aload_n 0, 1) := by decide +kernel
theorem dL_sounds_586 : decode cL_sounds 586 = .ok (.bipush 103, 2) := by decide +kernel
theorem dL_sounds_588 : decode cL_sounds 588 = .ok (.invokevirtual 26, 3) := by decide +kernel
theorem dL_sounds_591 : decode cL_sounds 591 = .ok (.iconst 3, 1) := by decide +kernel
theorem dL_sounds_592 : decode cL_sounds 592 = .ok (.if_icmp .ne 132, 3) := by decide +kernel
theorem dL_sounds_595 : decode cL_sounds 595 = .ok (.aload_n 0, 1) := by decide +kernel
theorem dL_sounds_596 : decode cL_sounds 596 = .ok (.bipush 104, 2) := by decide +kernel
theorem dL_sounds_598 : decode cL_sounds 598 = .ok (.invokevirtual 26, 3) := by decide +kernel
theorem dL_sounds_601 : decode cL_sounds 601 = .ok (.iconst 4, 1) := by decide +kernel
theorem dL_sounds_602 : decode cL_sounds 602 = .ok (.if_icmp .ne 122, 3) := by decide +kernel
theorem dL_sounds_605 : decode cL_sounds 605 = .ok (.aload_n 0, 1) := by decide +kernel
theorem dL_sounds_606 : decode cL_sounds 606 = .ok (.bipush 7, 2) := by decide +kernel
theorem dL_sounds_608 : decode cL_sounds 608 = .ok (.iconst 0, 1) := by decide +kernel
theorem dL_sounds_609 : decode cL_sounds 609 = .ok (.iconst 0, 1) := by decide +kernel
theorem dL_sounds_610 : decode cL_sounds 610 = .ok (.iconst 0, 1) := by decide +kernel
theorem dL_sounds_611 : decode cL_sounds 611 = .ok (.invokestatic 79, 3) := by decide +kernel
theorem dL_sounds_614 : decode cL_sounds 614 = .ok (.bipush (-73), 2) := by decide +kernel
theorem dL_sounds_616 : decode cL_sounds 616 = .ok (.if_icmp .ne 108, 3) := by decide +kernel
theorem dL_sounds_619 : decode cL_sounds 619 = .ok (.aload_n 0, 1) := by decide +kernel
theorem dL_sounds_620 : decode cL_sounds 620 = .ok (.bipush 116, 2) := by decide +kernel
theorem dL_sounds_622 : decode cL_sounds 622 = .ok (.invokevirtual 26, 3) := by decide +kernel
theorem dL_sounds_625 : decode cL_sounds 625 = .ok (.iconst 5, 1) := by decide +kernel
theorem dL_sounds_626 : decode cL_sounds 626 = .ok (.if_icmp .ne 98, 3) := by decide +kernel
theorem dL_sounds_629 : decode cL_sounds 629 = .ok (.aload_n 0, 1) := by decide +kernel
theorem dL_sounds_630 : decode cL_sounds 630 = .ok (.iconst 0, 1) := by decide +kernel
theorem dL_sounds_631 : decode cL_sounds 631 = .ok (.invokevirtual 54, 3) := by decide +kernel
theorem dL_sounds_634 : decode cL_sounds 634 = .ok (.ifCond .eq 90, 3) := by decide +kernel
theorem dL_sounds_637 : decode cL_sounds 637 = .ok (.aload_n 0, 1) := by decide +kernel
theorem dL_sounds_638 : decode cL_sounds 638 = .ok (.iconst 0, 1) := by decide +kernel
theorem dL_sounds_639 : decode cL_sounds 639 = .ok (.bipush 90, 2) := by decide +kernel
theorem dL_sounds_641 : decode cL_sounds 641 = .ok (.bipush 65, 2) := by decide +kernel
theorem dL_sounds_643 : decode cL_sounds 643 = .ok (.iconst (-1), 1) := by decide +kernel
theorem dL_sounds_644 : decode cL_sounds 644 = .ok (.invokestatic 104, 3) := by decide +kernel
theorem dL_sounds_647 : decode cL_sounds 647 = .ok (.ifCond .eq 77, 3) := by decide +kernel
theorem dL_sounds_650 : decode cL_sounds 650 = .ok (.aload_n 0, 1) := by decide +kernel
theorem dL_sounds_651 : decode cL_sounds 651 = .ok (.iconst 0, 1) := by decide +kernel
theorem dL_sounds_652 : decode cL_sounds 652 = .ok (.invokevirtual 54, 3) := by decide +kernel
theorem dL_sounds_655 : decode cL_sounds 655 = .ok (.ifCond .ne 69, 3) := by decide +kernel
theorem dL_sounds_658 : decode cL_sounds 658 = .ok (.aload_n 0, 1) := by decide +kernel
theorem dL_sounds_659 : decode cL_sounds 659 = .ok (.iconst 0, 1) := by decide +kernel
theorem dL_sounds_660 : decode cL_sounds 660 = .ok (.bipush 90, 2) := by decide +kernel
theorem dL_sounds_662 : decode cL_sounds 662 = .ok (.bipush 65, 2) := by decide +kernel
theorem dL_sounds_664 : decode cL_sounds 664 = .ok (.iconst (-1), 1) := by decide +kernel
theorem dL_sounds_665 : decode cL_sounds 665 = .ok (.invokestatic 104, 3) := by decide +kernel
theorem dL_sounds_668 : decode cL_sounds 668 = .ok (.ifCond .eq 56, 3) := by decide +kernel
theorem dL_sounds_671 : decode cL_sounds 671 = .ok (.aload_n 0, 1) := by decide +kernel
theorem dL_sounds_672 : decode cL_sounds 672 = .ok (.bipush 115, 2) := by decide +kernel
theorem dL_sounds_674 : decode cL_sounds 674 = .ok (.invokevirtual 26, 3) := by decide +kernel
theorem dL_sounds_677 : decode cL_sounds 677 = .ok (.bipush 6, 2) := by decide +kernel
theorem dL_sounds_679 : decode cL_sounds 679 = .ok (.if_icmp .ne 45, 3) := by decide +kernel
theorem dL_sounds_682 : decode cL_sounds 682 = .ok (.aload_n 0, 1) := by decide +kernel
theorem dL_sounds_683 : decode cL_sounds 683 = .ok (.bipush 7, 2) := by decide +kernel
theorem dL_sounds_685 : decode cL_sounds 685 = .ok (.iconst 0, 1) := by decide +kernel
theorem dL_sounds_686 : decode cL_sounds 686 = .ok (.iconst 0, 1) := by decide +kernel
theorem dL_sounds_687 : decode cL_sounds 687 = .ok (.iconst 0, 1) := by decide +kernel
theorem dL_sounds_688 : decode cL_sounds 688 = .ok (.invokestatic 79, 3) := by decide +kernel
theorem dL_sounds_691 : decode cL_sounds 691 = .ok (.bipush (-73), 2) := by decide +kernel
theorem dL_sounds_693 : decode cL_sounds 693 = .ok (.if_icmp .ne 31, 3) := by decide +kernel
theorem dL_sounds_696 : decode cL_sounds 696 = .ok (.aload_n 0, 1) := by decide +kernel
theorem dL_sounds_697 : decode cL_sounds 697 = .ok (.bipush 120, 2) := by decide +kernel
theorem dL_sounds_699 : decode cL_sounds 699 = .ok (.invokestatic 92, 3) := by decide +kernel
theorem dL_sounds_702 : decode cL_sounds 702 = .ok (.bipush (-73), 2) := by decide +kernel
theorem dL_sounds_704 : decode cL_sounds 704 = .ok (.if_icmp .ne 20, 3) := by decide +kernel
theorem dL_sounds_707 : decode cL_sounds 707 = .ok (.aload_n 0, 1) := by decide +kernel
theorem dL_sounds_708 : decode cL_sounds 708 = .ok (.invokevirtual 95, 3) := by decide +kernel
theorem dL_sounds_711 : decode cL_sounds 711 = .ok (.bipush 6, 2) := by decide +kernel
theorem dL_sounds_713 : decode cL_sounds 713 = .ok (.if_icmp .ne 11, 3) := by decide +kernel
theorem dL_sounds_716 : decode cL_sounds 716 = .ok (.aload_n 0, 1) := by decide +kernel
theorem dL_sounds_717 : decode cL_sounds 717 = .ok (.iconst 1, 1) := by decide +kernel
theorem dL_sounds_718 : decode cL_sounds 718 = .ok (.invokestatic 100, 3) := by decide +kernel
theorem dL_sounds_721 : decode cL_sounds 721 = .ok (.ifCond .ne 5, 3) := by decide +kernel
theorem dL_sounds_724 : decode cL_sounds 724 = .ok (.iconst 0, 1) := by decide +kernel
theorem dL_sounds_725 : decode cL_sounds 725 = .ok (.ireturn, 1) := by decide +kernel
theorem dL_sounds_726 : decode cL_sounds 726 = .ok (.aload_n 0, 1) := by decide +kernel
theorem dL_sounds_727 : decode cL_sounds 727 = .ok (.iconst 1, 1) := by decide +kernel
theorem dL_sounds_728 : decode cL_sounds 728 = .ok (.iconst 0, 1) := by decide +kernel
theorem dL_sounds_729 : decode cL_sounds 729 = .ok (.iconst 5, 1) := by decide +kernel
theorem dL_sounds_730 : decode cL_sounds 730 = .ok (.iconst 0, 1) := by decide +kernel
theorem dL_sounds_731 : decode cL_sounds 731 = .ok (.bipush 10, 2) := by decide +kernel
theorem dL_sounds_733 : decode cL_sounds 733 = .ok (.iconst 3, 1) := by decide +kernel
theorem dL_sounds_734 : decode cL_sounds 734 = .ok (.iconst (-1), 1) := by decide +kernel
theorem dL_sounds_735 : decode cL_sounds 735 = .ok (.invokevirtual 13, 3) := by decide +kernel
theorem dL_sounds_738 : decode cL_sounds 738 = .ok (.iconst 1, 1) := by decide +kernel
theorem dL_sounds_739 : decode cL_sounds 739 = .ok (.if_icmp .ne 236, 3) := by decide +kernel
theorem dL_sounds_742 : decode cL_sounds 742 = .ok (.aload_n 0, 1) := by decide +kernel
theorem dL_sounds_743 : decode cL_sounds 743 = .ok (.bipush 100, 2) := by decide +kernel
theorem dL_sounds_745 : decode cL_sounds 745 = .ok (.bipush 97, 2) := by decide +kernel
theorem dL_sounds_747 : decode cL_sounds 747 = .ok (.bipush 114, 2) := by decide +kernel
theorem dL_sounds_749 : decode cL_sounds 749 = .ok (.bipush 107, 2) := by decide +kernel
theorem dL_sounds_751 : decode cL_sounds 751 = .ok (.iconst 4, 1) := by decide +kernel
theorem dL_sounds_752 : decode cL_sounds 752 = .ok (.invokestatic 112, 3) := by decide +kernel
theorem dL_sounds_755 : decode cL_sounds 755 = .ok (.ifCond .eq 220, 3) := by decide +kernel
theorem dL_sounds_758 : decode cL_sounds 758 = .ok (.aload_n 0, 1) := by decide +kernel
theorem dL_sounds_759 : decode cL_sounds 759 = .ok (.iconst 1, 1) := by decide +kernel
theorem dL_sounds_760 : decode cL_sounds 760 = .ok (.invokevirtual 54, 3) := by decide +kernel
theorem dL_sounds_763 : decode cL_sounds 763 = .ok (.ifCond .eq 212, 3) := by decide +kernel
theorem dL_sounds_766 : decode cL_sounds 766 = .ok (.aload_n 0, 1) := by decide +kernel
theorem dL_sounds_767 : decode cL_sounds 767 = .ok (.iconst 1, 1) := by decide +kernel
theorem dL_sounds_768 : decode cL_sounds 768 = .ok (.invokevirtual 54, 3) := by decide +kernel
theorem dL_sounds_771 : decode cL_sounds 771 = .ok (.ifCond .eq 204, 3) := by decide +kernel
theorem dL_sounds_774 : decode cL_sounds 774 = .ok (.aload_n 0, 1) := by decide +kernel
theorem dL_sounds_775 : decode cL_sounds 775 = .ok (.bipush 115, 2) := by decide +kernel
theorem dL_sounds_777 : decode cL_sounds 777 = .ok (.bipush 111, 2) := by decide +kernel
theorem dL_sounds_779 : decode cL_sounds 779 = .ok (.bipush 102, 2) := by decide +kernel
theorem dL_sounds_781 : decode cL_sounds 781 = .ok (.bipush 116, 2) := by decide +kernel
theorem dL_sounds_783 : decode cL_sounds 783 = .ok (.iconst 4, 1) := by decide +kernel
theorem dL_sounds_784 : decode cL_sounds 784 = .ok (.invokestatic 112, 3) := by decide +kernel
theorem dL_sounds_787 : decode cL_sounds 787 = .ok (.ifCond .eq 188, 3) := by decide +kernel
theorem dL_sounds_790 : decode cL_sounds 790 = .ok (.aload_n 0, 1) := by decide +kernel
theorem dL_sounds_791 : decode cL_sounds 791 = .ok (.iconst 1, 1) := by decide +kernel
theorem dL_sounds_792 : decode cL_sounds 792 = .ok (.invokevirtual 54, 3) := by decide +kernel
theorem dL_sounds_795 : decode cL_sounds 795 = .ok (.ifCond .eq 180, 3) := by decide +kernel
theorem dL_sounds_798 : decode cL_sounds 798 = .ok (.aload_n 0, 1) := by decide +kernel
theorem dL_sounds_799 : decode cL_sounds 799 = .ok (.iconst 1, 1) := by decide +kernel
theorem dL_sounds_800 : decode cL_sounds 800 = .ok (.invokevirtual 54, 3) := by decide +kernel
theorem dL_sounds_803 : decode cL_sounds 803 = .ok (.ifCond .eq 172, 3) := by decide +kernel
theorem dL_sounds_806 : decode cL_sounds 806 = .ok (.aload_n 0, 1) := by decide +kernel
theorem dL_sounds_807 : decode cL_sounds 807 = .ok (.iconst 1, 1) := by decide +kernel
theorem dL_sounds_808 : decode cL_sounds 808 = .ok (.iconst 0, 1) := by decide +kernel
theorem dL_sounds_809 : decode cL_sounds 809 = .ok (.iconst 0, 1) := by decide +kernel
theorem dL_sounds_810 : decode cL_sounds 810 = .ok (.iconst (-1), 1) := by decide +kernel
theorem dL_sounds_811 : decode cL_sounds 811 = .ok (.invokestatic 104, 3) := by decide +kernel
theorem dL_sounds_814 : decode cL_sounds 814 = .ok (.ifCond .eq 161, 3) := by decide +kernel
theorem dL_sounds_817 : decode cL_sounds 817 = .ok (.aload_n 0, 1) := by decide +kernel
theorem dL_sounds_818 : decode cL_sounds 818 = .ok (.bipush 20, 2) := by decide +kernel
theorem dL_sounds_820 : decode cL_sounds 820 = .ok (.invokevirtual 30, 3) := by decide +kernel
theorem dL_sounds_823 : decode cL_sounds 823 = .ok (.iconst 2, 1) := by decide +kernel
theorem dL_sounds_824 : decode cL_sounds 824 = .ok (.if_icmp .ne 151, 3) := by decide +kernel
theorem dL_sounds_827 : decode cL_sounds 827 = .ok (.aload_n 0, 1) := by decide +kernel
theorem dL_sounds_828 : decode cL_sounds 828 = .ok (.bipush 30, 2) := by decide +kernel
theorem dL_sounds_830 : decode cL_sounds 830 = .ok (.invokevirtual 30, 3) := by decide +kernel
theorem dL_sounds_833 : decode cL_sounds 833 = .ok (.iconst 3, 1) := by decide +kernel
theorem dL_sounds_834 : decode cL_sounds 834 = .ok (.if_icmp .ne 141, 3) := by decide +kernel
theorem dL_sounds_837 : decode cL_sounds 837 = .ok (.aload_n 0, 1) := by decide +kernel
theorem dL_sounds_838 : decode cL_sounds 838 = .ok (.iconst 1, 1) := by decide +kernel
theorem dL_sounds_839 : decode cL_sounds 839 = .ok (.bipush 40, 2) := by decide +kernel
theorem dL_sounds_841 : decode cL_sounds 841 = .ok (.iconst 5, 1) := by decide +kernel
theorem dL_sounds_842 : decode cL_sounds 842 = .ok (.iconst 2, 1) := by decide +kernel
theorem dL_sounds_843 : decode cL_sounds 843 = .ok (.sipush 190, 3) := by decide +kernel
theorem dL_sounds_846 : decode cL_sounds 846 = .ok (.iconst 0, 1) := by decide +kernel
theorem dL_sounds_847 : decode cL_sounds 847 = .ok (.iconst (-1), 1) := by decide +kernel
theorem dL_sounds_848 : decode cL_sounds 848 = .ok (.invokevirtual 13, 3) := by decide +kernel
theorem dL_sounds_851 : decode cL_sounds 851 = .ok (.iconst 2, 1) := by decide +kernel
theorem dL_sounds_852 : decode cL_sounds 852 = .ok (.if_icmp .ne 123, 3) := by decide +kernel
theorem dL_sounds_855 : decode cL_sounds 855 = .ok (.aload_n 0, 1) := by decide +kernel
theorem dL_sounds_856 : decode cL_sounds 856 = .ok (.invokevirtual 95, 3) := by decide +kernel
theorem dL_sounds_859 : decode cL_sounds 859 = .ok (.iconst 4, 1) := by decide +kernel
theorem dL_sounds_860 : decode cL_sounds 860 = .ok (.if_icmp .ne 115, 3) := by decide +kernel
theorem dL_sounds_863 : decode cL_sounds 863 = .ok (.aload_n 0, 1) := by decide +kernel
theorem dL_sounds_864 : decode cL_sounds 864 = .ok (.bipush 108, 2) := by decide +kernel
theorem dL_sounds_866 : decode cL_sounds 866 = .ok (.invokevirtual 26, 3) := by decide +kernel
theorem dL_sounds_869 : decode cL_sounds 869 = .ok (.iconst 1, 1) := by decide +kernel
theorem dL_sounds_870 : decode cL_sounds 870 = .ok (.if_icmp .ne 105, 3) := by decide +kernel
theorem dL_sounds_873 : decode cL_sounds 873 = .ok (.aload_n 0, 1) := by decide +kernel
theorem dL_sounds_874 : decode cL_sounds 874 = .ok (.bipush 105, 2) := by decide +kernel
theorem dL_sounds_876 : decode cL_sounds 876 = .ok (.invokevirtual 26, 3) := by decide +kernel
theorem dL_sounds_879 : decode cL_sounds 879 = .ok (.iconst 2, 1) := by decide +kernel
theorem dL_sounds_880 : decode cL_sounds 880 = .ok (.if_icmp .ne 95, 3) := by decide +kernel
theorem dL_sounds_883 : decode cL_sounds 883 = .ok (.aload_n 0, 1) := by decide +kernel
theorem dL_sounds_884 : decode cL_sounds 884 = .ok (.bipush 103, 2) := by decide +kernel
theorem dL_sounds_886 : decode cL_sounds 886 = .ok (.invokevirtual 26, 3) := by decide +kernel
theorem dL_sounds_889 : decode cL_sounds 889 = .ok (.iconst 3, 1) := by decide +kernel
theorem dL_sounds_890 : decode cL_sounds 890 = .ok (.if_icmp .ne 85, 3) := by decide +kernel
theorem dL_sounds_893 : decode cL_sounds 893 = .ok (.aload_n 0, 1) := by decide +kernel
theorem dL_sounds_894 : decode cL_sounds 894 = .ok (.bipush 104, 2) := by decide +kernel
theorem dL_sounds_896 : decode cL_sounds 896 = .ok (.invokevirtual 26, 3) := by decide +kernel
theorem dL_sounds_899 : decode cL_sounds 899 = .ok (.iconst 4, 1) := by decide +kernel
theorem dL_sounds_900 : decode cL_sounds 900 = .ok (.if_icmp .ne 75, 3) := by decide +kernel
theorem dL_sounds_903 : decode cL_sounds 903 = .ok (.aload_n 0, 1) := by decide +kernel
theorem dL_sounds_904 : decode cL_sounds 904 = .ok (.bipush 116, 2) := by decide +kernel
theorem dL_sounds_906 : decode cL_sounds 906 = .ok (.invokevirtual 26, 3) := by decide +kernel
theorem dL_sounds_909 : decode cL_sounds 909 = .ok (.iconst 5, 1) := by decide +kernel
theorem dL_sounds_910 : decode cL_sounds 910 = .ok (.if_icmp .ne 65, 3) := by decide +kernel
theorem dL_sounds_913 : decode cL_sounds 913 = .ok (.aload_n 0, 1) := by decide +kernel
theorem dL_sounds_914 : decode cL_sounds 914 = .ok (.iconst 2, 1) := by decide +kernel
theorem dL_sounds_915 : decode cL_sounds 915 = .ok (.invokevirtual 54, 3) := by decide +kernel
theorem dL_sounds_918 : decode cL_sounds 918 = .ok (.ifCond .eq 57, 3) := by decide +kernel
theorem dL_sounds_921 : decode cL_sounds 921 = .ok (.aload_n 0, 1) := by decide +kernel
theorem dL_sounds_922 : decode cL_sounds 922 = .ok (.iconst 2, 1) := by decide +kernel
theorem dL_sounds_923 : decode cL_sounds 923 = .ok (.invokevirtual 54, 3) := by decide +kernel
theorem dL_sounds_926 : decode cL_sounds 926 = .ok (.ifCond .eq 49, 3) := by decide +kernel
theorem dL_sounds_929 : decode cL_sounds 929 = .ok (.aload_n 0, 1) := by decide +kernel
theorem dL_sounds_930 : decode cL_sounds 930 = .ok (.iconst 2, 1) := by decide +kernel
theorem dL_sounds_931 : decode cL_sounds 931 = .ok (.sipush 200, 3) := by decide +kernel
theorem dL_sounds_934 : decode cL_sounds 934 = .ok (.iconst 0, 1) := by decide +kernel
theorem dL_sounds_935 : decode cL_sounds 935 = .ok (.iconst (-1), 1) := by decide +kernel
theorem dL_sounds_936 : decode cL_sounds 936 = .ok (.invokestatic 104, 3) := by decide +kernel
theorem dL_sounds_939 : decode cL_sounds 939 = .ok (.ifCond .eq 36, 3) := by decide +kernel
theorem dL_sounds_942 : decode cL_sounds 942 = .ok (.aload_n 0, 1) := by decide +kernel
theorem dL_sounds_943 : decode cL_sounds 943 = .ok (.iconst 2, 1) := by decide +kernel
theorem dL_sounds_944 : decode cL_sounds 944 = .ok (.invokestatic 85, 3) := by decide +kernel
theorem dL_sounds_947 : decode cL_sounds 947 = .ok (.ifCond .ne 28, 3) := by decide +kernel
theorem dL_sounds_950 : decode cL_sounds 950 = .ok (.aload_n 0, 1) := by decide +kernel
theorem dL_sounds_951 : decode cL_sounds 951 = .ok (.bipush 7, 2) := by decide +kernel
theorem dL_sounds_953 : decode cL_sounds 953 = .ok (.iconst 2, 1) := by decide +kernel
theorem dL_sounds_954 : decode cL_sounds 954 = .ok (.iconst 0, 1) := by decide +kernel
theorem dL_sounds_955 : decode cL_sounds 955 = .ok (.iconst 0, 1) := by decide +kernel
theorem dL_sounds_956 : decode cL_sounds 956 = .ok (.invokestatic 79, 3) := by decide +kernel
theorem dL_sounds_959 : decode cL_sounds 959 = .ok (.bipush (-73), 2) := by decide +kernel
theorem dL_sounds_961 : decode cL_sounds 961 = .ok (.if_icmp .ne 14, 3) := by decide +kernel
theorem dL_sounds_964 : decode cL_sounds 964 = .ok (.aload_n 0, 1) := by decide +kernel
theorem dL_sounds_965 : decode cL_sounds 965 = .ok (.invokevirtual 74, 3) := by decide +kernel
theorem dL_sounds_968 : decode cL_sounds 968 = .ok (.ifCond .eq 7, 3) := by decide +kernel
theorem dL_sounds_971 : decode cL_sounds 971 = .ok (.iconst 1, 1) := by decide +kernel
theorem dL_sounds_972 : decode cL_sounds 972 = .ok (.goto 4, 3) := by decide +kernel
theorem dL_sounds_975 : decode cL_sounds 975 = .ok (.iconst 0, 1) := by decide +kernel
theorem dL_sounds_976 : decode cL_sounds 976 = .ok (.ireturn, 1) := by decide +kernel
theorem dL_storms_0 : decode cL_storms 0 = .ok (.new 8, 3) := by decide +kernel
theorem dL_storms_3 : decode cL_storms 3 = .ok (.dup, 1) := by decide +kernel
theorem dL_storms_4 : decode cL_storms 4 = .ok (.invokespecial 99, 3) := by decide +kernel
theorem dL_storms_7 : decode cL_storms 7 = .ok (.astore_n 0, 1) := by decide +kernel
theorem dL_storms_8 : decode cL_storms 8 = .ok (.aload_n 0, 1) := by decide +kernel
theorem dL_storms_9 : decode cL_storms 9 = .ok (.iconst 0, 1) := by decide +kernel
theorem dL_storms_10 : decode cL_storms 10 = .ok (.invokevirtual 30, 3) := by decide +kernel
theorem dL_storms_13 : decode cL_storms 13 = .ok (.iconst 1, 1) := by decide +kernel
theorem dL_storms_14 : decode cL_storms 14 = .ok (.if_icmp .ne 251, 3) := by decide +kernel
theorem dL_storms_17 : decode cL_storms 17 = .ok (.aload_n 0, 1) := by decide +kernel
theorem dL_storms_18 : decode cL_storms 18 = .ok (.iconst 0, 1) := by decide +kernel
theorem dL_storms_19 : decode cL_storms 19 = .ok (.bipush 10, 2) := by decide +kernel
theorem dL_storms_21 : decode cL_storms 21 = .ok (.invokevirtual 34, 3) := by decide +kernel
theorem dL_storms_24 : decode cL_storms 24 = .ok (.ifCond .eq 241, 3) := by decide +kernel
theorem dL_storms_27 : decode cL_storms 27 = .ok (.aload_n 0, 1) := by decide +kernel
theorem dL_storms_28 : decode cL_storms 28 = .ok (.iconst 0, 1) := by decide +kernel
theorem dL_storms_29 : decode cL_storms 29 = .ok (.bipush 100, 2) := by decide +kernel
theorem dL_storms_31 : decode cL_storms 31 = .ok (.bipush 40, 2) := by decide +kernel
theorem dL_storms_33 : decode cL_storms 33 = .ok (.iconst 0, 1) := by decide +kernel
theorem dL_storms_34 : decode cL_storms 34 = .ok (.bipush 100, 2) := by decide +kernel
theorem dL_storms_36 : decode cL_storms 36 = .ok (.iconst 0, 1) := by decide +kernel
theorem dL_storms_37 : decode cL_storms 37 = .ok (.iconst 5, 1) := by decide +kernel
theorem dL_storms_38 : decode cL_storms 38 = .ok (.invokevirtual 13, 3) := by decide +kernel
theorem dL_storms_41 : decode cL_storms 41 = .ok (.ifCond .ne 224, 3) := by decide +kernel
theorem dL_storms_44 : decode cL_storms 44 = .ok (.aload_n 0, 1) := by decide +kernel
theorem dL_storms_45 : decode cL_storms 45 = .ok (.iconst 0, 1) := by decide +kernel
theorem dL_storms_46 : decode cL_storms 46 = .ok (.sipush 150, 3) := by decide +kernel
theorem dL_storms_49 : decode cL_storms 49 = .ok (.bipush 30, 2) := by decide +kernel
theorem dL_storms_51 : decode cL_storms 51 = .ok (.iconst 0, 1) := by decide +kernel
theorem dL_storms_52 : decode cL_storms 52 = .ok (.bipush 60, 2) := by decide +kernel
theorem dL_storms_54 : decode cL_storms 54 = .ok (.iconst 0, 1) := by decide +kernel
theorem dL_storms_55 : decode cL_storms 55 = .ok (.iconst (-1), 1) := by decide +kernel
theorem dL_storms_56 : decode cL_storms 56 = .ok (.invokevirtual 13, 3) := by decide +kernel
theorem dL_storms_59 : decode cL_storms 59 = .ok (.iconst 1, 1) := by decide +kernel
theorem dL_storms_60 : decode cL_storms 60 = .ok (.if_icmp .ne 205, 3) := by decide +kernel
theorem dL_storms_63 : decode cL_storms 63 = .ok (.aload_n 0, 1) := by decide +kernel
theorem dL_storms_64 : decode cL_storms 64 = .ok (.iconst 0, 1) := by decide +kernel
theorem dL_storms_65 : decode cL_storms 65 = .ok (.sipush 300, 3) := by decide +kernel
theorem dL_storms_68 : decode cL_storms 68 = .ok (.bipush 20, 2) := by decide +kernel
theorem dL_storms_70 : decode cL_storms 70 = .ok (.iconst 0, 1) := by decide +kernel
theorem dL_storms_71 : decode cL_storms 71 = .ok (.iconst 0, 1) := by decide +kernel
theorem dL_storms_72 : decode cL_storms 72 = .ok (.iconst 0, 1) := by decide +kernel
theorem dL_storms_73 : decode cL_storms 73 = .ok (.iconst (-1), 1) := by decide +kernel
theorem dL_storms_74 : decode cL_storms 74 = .ok (.invokevirtual 13, 3) := by decide +kernel
theorem dL_storms_77 : decode cL_storms 77 = .ok (.iconst 2, 1) := by decide +kernel
theorem dL_storms_78 : decode cL_storms 78 = .ok (.if_icmp .ne 187, 3) := by decide +kernel
theorem dL_storms_81 : decode cL_storms 81 = .ok (.aload_n 0, 1) := by decide +kernel
theorem dL_storms_82 : decode cL_storms 82 = .ok (.iconst 1, 1) := by decide +kernel
theorem dL_storms_83 : decode cL_storms 83 = .ok (.sipush 200, 3) := by decide +kernel
theorem dL_storms_86 : decode cL_storms 86 = .ok (.bipush 60, 2) := by decide +kernel
theorem dL_storms_88 : decode cL_storms 88 = .ok (.iconst 0, 1) := by decide +kernel
theorem dL_storms_89 : decode cL_storms 89 = .ok (.bipush 50, 2) := by decide +kernel
theorem dL_storms_91 : decode cL_storms 91 = .ok (.iconst 0, 1) := by decide +kernel
theorem dL_storms_92 : decode cL_storms 92 = .ok (.bipush 6, 2) := by decide +kernel
theorem dL_storms_94 : decode cL_storms 94 = .ok (.invokevirtual 13, 3) := by decide +kernel
theorem dL_storms_97 : decode cL_storms 97 = .ok (.iconst 3, 1) := by decide +kernel
theorem dL_storms_98 : decode cL_storms 98 = .ok (.if_icmp .ne 167, 3) := by decide +kernel
theorem dL_storms_101 : decode cL_storms 101 = .ok (.aload_n 0, 1) := by decide +kernel
theorem dL_storms_102 : decode cL_storms 102 = .ok (.iconst 0, 1) := by decide +kernel
theorem dL_storms_103 : decode cL_storms 103 = .ok (.sipush 139, 3) := by decide +kernel
theorem dL_storms_106 : decode cL_storms 106 = .ok (.bipush 11, 2) := by decide +kernel
theorem dL_storms_108 : decode cL_storms 108 = .ok (.invokevirtual 61, 3) := by decide +kernel
theorem dL_storms_111 : decode cL_storms 111 = .ok (.ifCond .ne 154, 3) := by decide +kernel
theorem dL_storms_114 : decode cL_storms 114 = .ok (.aload_n 0, 1) := by decide +kernel
theorem dL_storms_115 : decode cL_storms 115 = .ok (.iconst 0, 1) := by decide +kernel
theorem dL_storms_116 : decode cL_storms 116 = .ok (.invokevirtual 47, 3) := by decide +kernel
theorem dL_storms_119 : decode cL_storms 119 = .ok (.sipush 330, 3) := by decide +kernel
theorem dL_storms_122 : decode cL_storms 122 = .ok (.if_icmp .ne 143, 3) := by decide +kernel
theorem dL_storms_125 : decode cL_storms 125 = .ok (.aload_n 0, 1) := by decide +kernel
theorem dL_storms_126 : decode cL_storms 126 = .ok (.iconst 1, 1) := by decide +kernel
theorem dL_storms_127 : decode cL_storms 127 = .ok (.invokevirtual 47, 3) := by decide +kernel
theorem dL_storms_130 : decode cL_storms 130 = .ok (.sipush 150, 3) := by decide +kernel
theorem dL_storms_133 : decode cL_storms 133 = .ok (.if_icmp .ne 132, 3) := by decide +kernel
theorem dL_storms_136 : decode cL_storms 136 = .ok (.aload_n 0, 1) := by decide +kernel
theorem dL_storms_137 : decode cL_storms 137 = .ok (.iconst 2, 1) := by decide +kernel
theorem dL_storms_138 : decode cL_storms 138 = .ok (.invokevirtual 47, 3) := by decide +kernel
theorem dL_storms_141 : decode cL_storms 141 = .ok (.sipush 300, 3) := by decide +kernel
theorem dL_storms_144 : decode cL_storms 144 = .ok (.if_icmp .ne 121, 3) := by decide +kernel
theorem dL_storms_147 : decode cL_storms 147 = .ok (.aload_n 0, 1) := by decide +kernel
theorem dL_storms_148 : decode cL_storms 148 = .ok (.iconst 3, 1) := by decide +kernel
theorem dL_storms_149 : decode cL_storms 149 = .ok (.invokevirtual 47, 3) := by decide +kernel
theorem dL_storms_152 : decode cL_storms 152 = .ok (.sipush 200, 3) := by decide +kernel
theorem dL_storms_155 : decode cL_storms 155 = .ok (.if_icmp .ne 110, 3) := by decide +kernel
theorem dL_storms_158 : decode cL_storms 158 = .ok (.aload_n 0, 1) := by decide +kernel
theorem dL_storms_159 : decode cL_storms 159 = .ok (.iconst 0, 1) := by decide +kernel
theorem dL_storms_160 : decode cL_storms 160 = .ok (.iconst 0, 1) := by decide +kernel
theorem dL_storms_161 : decode cL_storms 161 = .ok (.invokevirtual 50, 3) := by decide +kernel
theorem dL_storms_164 : decode cL_storms 164 = .ok (.ifCond .ne 101, 3) := by decide +kernel
theorem dL_storms_167 : decode cL_storms 167 = .ok (.aload_n 0, 1) := by decide +kernel
theorem dL_storms_168 : decode cL_storms 168 = .ok (.iconst 0, 1) := by decide +kernel
theorem dL_storms_169 : decode cL_storms 169 = .ok (.bipush 50, 2) := by decide +kernel
theorem dL_storms_171 : decode cL_storms 171 = .ok (.invokevirtual 50, 3) := by decide +kernel
theorem dL_storms_174 : decode cL_storms 174 = .ok (.bipush 50, 2) := by decide +kernel
theorem dL_storms_176 : decode cL_storms 176 = .ok (.if_icmp .ne 89, 3) := by decide +kernel
theorem dL_storms_179 : decode cL_storms 179 = .ok (.aload_n 0, 1) := by decide +kernel
theorem dL_storms_180 : decode cL_storms 180 = .ok (.iconst 0, 1) := by decide +kernel
theorem dL_storms_181 : decode cL_storms 181 = .ok (.bipush 100, 2) := by decide +kernel
theorem dL_storms_183 : decode cL_storms 183 = .ok (.invokevirtual 50, 3) := by decide +kernel
theorem dL_storms_186 : decode cL_storms 186 = .ok (.sipush 330, 3) := by decide +kernel
theorem dL_storms_189 : decode cL_storms 189 = .ok (.if_icmp .ne 76, 3) := by decide +kernel
theorem dL_storms_192 : decode cL_storms 192 = .ok (.aload_n 0, 1) := by decide +kernel
theorem dL_storms_193 : decode cL_storms 193 = .ok (.iconst 0, 1) := by decide +kernel
theorem dL_storms_194 : decode cL_storms 194 = .ok (.bipush 100, 2) := by decide +kernel
theorem dL_storms_196 : decode cL_storms 196 = .ok (.invokevirtual 44, 3) := by decide +kernel
theorem dL_storms_199 : decode cL_storms 199 = .ok (.ifCond .ne 66, 3) := by decide +kernel
theorem dL_storms_202 : decode cL_storms 202 = .ok (.aload_n 0, 1) := by decide +kernel
theorem dL_storms_203 : decode cL_storms 203 = .ok (.iconst 0, 1) := by decide +kernel
theorem dL_storms_204 : decode cL_storms 204 = .ok (.bipush 99, 2) := by decide +kernel
theorem dL_storms_206 : decode cL_storms 206 = .ok (.invokevirtual 44, 3) := by decide +kernel
theorem dL_storms_209 : decode cL_storms 209 = .ok (.ifCond .eq 56, 3) := by decide +kernel
theorem dL_storms_212 : decode cL_storms 212 = .ok (.aload_n 0, 1) := by decide +kernel
theorem dL_storms_213 : decode cL_storms 213 = .ok (.iconst 0, 1) := by decide +kernel
theorem dL_storms_214 : decode cL_storms 214 = .ok (.iconst 0, 1) := by decide +kernel
theorem dL_storms_215 : decode cL_storms 215 = .ok (.sipush 200, 3) := by decide +kernel
theorem dL_storms_218 : decode cL_storms 218 = .ok (.invokevirtual 61, 3) := by decide +kernel
theorem dL_storms_221 : decode cL_storms 221 = .ok (.ifCond .ne 44, 3) := by decide +kernel
theorem dL_storms_224 : decode cL_storms 224 = .ok (.aload_n 0, 1) := by decide +kernel
theorem dL_storms_225 : decode cL_storms 225 = .ok (.iconst 0, 1) := by decide +kernel
theorem dL_storms_226 : decode cL_storms 226 = .ok (.invokevirtual 47, 3) := by decide +kernel
theorem dL_storms_229 : decode cL_storms 229 = .ok (.sipush 330, 3) := by decide +kernel
theorem dL_storms_232 : decode cL_storms 232 = .ok (.if_icmp .ne 33, 3) := by decide +kernel
theorem dL_storms_235 : decode cL_storms 235 = .ok (.aload_n 0, 1) := by decide +kernel
theorem dL_storms_236 : decode cL_storms 236 = .ok (.iconst 1, 1) := by decide +kernel
theorem dL_storms_237 : decode cL_storms 237 = .ok (.invokevirtual 47, 3) := by decide +kernel
theorem dL_storms_240 : decode cL_storms 240 = .ok (.sipush 260, 3) := by decide +kernel
theorem dL_storms_243 : decode cL_storms 243 = .ok (.if_icmp .ne 22, 3) := by decide +kernel
theorem dL_storms_246 : decode cL_storms 246 = .ok (.aload_n 0, 1) := by decide +kernel
theorem dL_storms_247 : decode cL_storms 247 = .ok (.iconst 2, 1) := by decide +kernel
theorem dL_storms_248 : decode cL_storms 248 = .ok (.invokevirtual 47, 3) := by decide +kernel
theorem dL_storms_251 : decode cL_storms 251 = .ok (.sipush 300, 3) := by decide +kernel
theorem dL_storms_254 : decode cL_storms 254 = .ok (.if_icmp .ne 11, 3) := by decide +kernel
theorem dL_storms_257 : decode cL_storms 257 = .ok (.aload_n 0, 1) := by decide +kernel
theorem dL_storms_258 : decode cL_storms 258 = .ok (.iconst 4, 1) := by decide +kernel
theorem dL_storms_259 : decode cL_storms 259 = .ok (.invokestatic 100, 3) := by decide +kernel
theorem dL_storms_262 : decode cL_storms 262 = .ok (.ifCond .ne 5, 3) := by decide +kernel
theorem dL_storms_265 : decode cL_storms 265 = .ok (.iconst 0, 1) := by decide +kernel
theorem dL_storms_266 : decode cL_storms 266 = .ok (.ireturn, 1) := by decide +kernel
theorem dL_storms_267 : decode cL_storms 267 = .ok (.aload_n 0, 1) := by decide +kernel
theorem dL_storms_268 : decode cL_storms 268 = .ok (.iconst 0, 1) := by decide +kernel
theorem dL_storms_269 : decode cL_storms 269 = .ok (.sipush 350, 3) := by decide +kernel
theorem dL_storms_272 : decode cL_storms 272 = .ok (.iconst 1, 1) := by decide +kernel
theorem dL_storms_273 : decode cL_storms 273 = .ok (.invokevirtual 61, 3) := by decide +kernel
theorem dL_storms_276 : decode cL_storms 276 = .ok (.ifCond .ne 167, 3) := by decide +kernel
theorem dL_storms_279 : decode cL_storms 279 = .ok (.aload_n 0, 1) := by decide +kernel
theorem dL_storms_280 : decode cL_storms 280 = .ok (.iconst 0, 1) := by decide +kernel
theorem dL_storms_281 : decode cL_storms 281 = .ok (.invokevirtual 47, 3) := by decide +kernel
theorem dL_storms_284 : decode cL_storms 284 = .ok (.sipush 351, 3) := by decide +kernel
theorem dL_storms_287 : decode cL_storms 287 = .ok (.if_icmp .ne 156, 3) := by decide +kernel
theorem dL_storms_290 : decode cL_storms 290 = .ok (.aload_n 0, 1) := by decide +kernel
theorem dL_storms_291 : decode cL_storms 291 = .ok (.iconst 1, 1) := by decide +kernel
theorem dL_storms_292 : decode cL_storms 292 = .ok (.invokevirtual 47, 3) := by decide +kernel
theorem dL_storms_295 : decode cL_storms 295 = .ok (.sipush 260, 3) := by decide +kernel
theorem dL_storms_298 : decode cL_storms 298 = .ok (.if_icmp .ne 145, 3) := by decide +kernel
theorem dL_storms_301 : decode cL_storms 301 = .ok (.aload_n 0, 1) := by decide +kernel
theorem dL_storms_302 : decode cL_storms 302 = .ok (.iconst 1, 1) := by decide +kernel
theorem dL_storms_303 : decode cL_storms 303 = .ok (.sipush 259, 3) := by decide +kernel
theorem dL_storms_306 : decode cL_storms 306 = .ok (.sipush 200, 3) := by decide +kernel
theorem dL_storms_309 : decode cL_storms 309 = .ok (.invokevirtual 61, 3) := by decide +kernel
theorem dL_storms_312 : decode cL_storms 312 = .ok (.ifCond .ne 131, 3) := by decide +kernel
theorem dL_storms_315 : decode cL_storms 315 = .ok (.aload_n 0, 1) := by decide +kernel
theorem dL_storms_316 : decode cL_storms 316 = .ok (.iconst 3, 1) := by decide +kernel
theorem dL_storms_317 : decode cL_storms 317 = .ok (.invokevirtual 47, 3) := by decide +kernel
theorem dL_storms_320 : decode cL_storms 320 = .ok (.sipush 459, 3) := by decide +kernel
theorem dL_storms_323 : decode cL_storms 323 = .ok (.if_icmp .ne 120, 3) := by decide +kernel
theorem dL_storms_326 : decode cL_storms 326 = .ok (.aload_n 0, 1) := by decide +kernel
theorem dL_storms_327 : decode cL_storms 327 = .ok (.iconst 1, 1) := by decide +kernel
theorem dL_storms_328 : decode cL_storms 328 = .ok (.sipush 900, 3) := by decide +kernel
theorem dL_storms_331 : decode cL_storms 331 = .ok (.sipush 200, 3) := by decide +kernel
theorem dL_storms_334 : decode cL_storms 334 = .ok (.invokevirtual 61, 3) := by decide +kernel
theorem dL_storms_337 : decode cL_storms 337 = .ok (.ifCond .ne 106, 3) := by decide +kernel
theorem dL_storms_340 : decode cL_storms 340 = .ok (.aload_n 0, 1) := by decide +kernel
theorem dL_storms_341 : decode cL_storms 341 = .ok (.bipush 9, 2) := by decide +kernel
theorem dL_storms_343 : decode cL_storms 343 = .ok (.iconst 0, 1) := by decide +kernel
theorem dL_storms_344 : decode cL_storms 344 = .ok (.iconst 5, 1) := by decide +kernel
theorem dL_storms_345 : decode cL_storms 345 = .ok (.iconst 5, 1) := by decide +kernel
theorem dL_storms_346 : decode cL_storms 346 = .ok (.invokestatic 79, 3) := by decide +kernel
theorem dL_storms_349 : decode cL_storms 349 = .ok (.bipush (-73), 2) := by decide +kernel
theorem dL_storms_351 : decode cL_storms 351 = .ok (.if_icmp .ne 92, 3) := by decide +kernel
theorem dL_storms_354 : decode cL_storms 354 = .ok (.aload_n 0, 1) := by decide +kernel
theorem dL_storms_355 : decode cL_storms 355 = .ok (.iconst 3, 1) := by decide +kernel
theorem dL_storms_356 : decode cL_storms 356 = .ok (.sipush 841, 3) := by decide +kernel
theorem dL_storms_359 : decode cL_storms 359 = .ok (.invokevirtual 50, 3) := by decide +kernel
theorem dL_storms_362 : decode cL_storms 362 = .ok (.iconst (-1), 1) := by decide +kernel
theorem dL_storms_363 : decode cL_storms 363 = .ok (.if_icmp .ne 80, 3) := by decide +kernel
theorem dL_storms_366 : decode cL_storms 366 = .ok (.aload_n 0, 1) := by decide +kernel
theorem dL_storms_367 : decode cL_storms 367 = .ok (.iconst 3, 1) := by decide +kernel
theorem dL_storms_368 : decode cL_storms 368 = .ok (.sipush 840, 3) := by decide +kernel
theorem dL_storms_371 : decode cL_storms 371 = .ok (.invokevirtual 50, 3) := by decide +kernel
theorem dL_storms_374 : decode cL_storms 374 = .ok (.sipush 840, 3) := by decide +kernel
theorem dL_storms_377 : decode cL_storms 377 = .ok (.if_icmp .ne 66, 3) := by decide +kernel
theorem dL_storms_380 : decode cL_storms 380 = .ok (.aload_n 0, 1) := by decide +kernel
theorem dL_storms_381 : decode cL_storms 381 = .ok (.iconst 0, 1) := by decide +kernel
theorem dL_storms_382 : decode cL_storms 382 = .ok (.iconst 0, 1) := by decide +kernel
theorem dL_storms_383 : decode cL_storms 383 = .ok (.invokevirtual 50, 3) := by decide +kernel
theorem dL_storms_386 : decode cL_storms 386 = .ok (.sipush 200, 3) := by decide +kernel
theorem dL_storms_389 : decode cL_storms 389 = .ok (.if_icmp .ne 54, 3) := by decide +kernel
theorem dL_storms_392 : decode cL_storms 392 = .ok (.aload_n 0, 1) := by decide +kernel
theorem dL_storms_393 : decode cL_storms 393 = .ok (.iconst 0, 1) := by decide +kernel
theorem dL_storms_394 : decode cL_storms 394 = .ok (.sipush 211, 3) := by decide +kernel
theorem dL_storms_397 : decode cL_storms 397 = .ok (.invokevirtual 50, 3) := by decide +kernel
theorem dL_storms_400 : decode cL_storms 400 = .ok (.sipush 351, 3) := by decide +kernel
theorem dL_storms_403 : decode cL_storms 403 = .ok (.if_icmp .ne 40, 3) := by decide +kernel
theorem dL_storms_406 : decode cL_storms 406 = .ok (.aload_n 0, 1) := by decide +kernel
theorem dL_storms_407 : decode cL_storms 407 = .ok (.iconst 1, 1) := by decide +kernel
theorem dL_storms_408 : decode cL_storms 408 = .ok (.sipush 800, 3) := by decide +kernel
theorem dL_storms_411 : decode cL_storms 411 = .ok (.bipush 100, 2) := by decide +kernel
theorem dL_storms_413 : decode cL_storms 413 = .ok (.iconst 1, 1) := by decide +kernel
theorem dL_storms_414 : decode cL_storms 414 = .ok (.iconst 0, 1) := by decide +kernel
theorem dL_storms_415 : decode cL_storms 415 = .ok (.iconst 0, 1) := by decide +kernel
theorem dL_storms_416 : decode cL_storms 416 = .ok (.iconst (-1), 1) := by decide +kernel
theorem dL_storms_417 : decode cL_storms 417 = .ok (.invokevirtual 13, 3) := by decide +kernel
theorem dL_storms_420 : decode cL_storms 420 = .ok (.iconst 4, 1) := by decide +kernel
theorem dL_storms_421 : decode cL_storms 421 = .ok (.if_icmp .ne 22, 3) := by decide +kernel
theorem dL_storms_424 : decode cL_storms 424 = .ok (.aload_n 0, 1) := by decide +kernel
theorem dL_storms_425 : decode cL_storms 425 = .ok (.iconst 1, 1) := by decide +kernel
theorem dL_storms_426 : decode cL_storms 426 = .ok (.iconst 1, 1) := by decide +kernel
theorem dL_storms_427 : decode cL_storms 427 = .ok (.sipush 800, 3) := by decide +kernel
theorem dL_storms_430 : decode cL_storms 430 = .ok (.bipush 101, 2) := by decide +kernel
theorem dL_storms_432 : decode cL_storms 432 = .ok (.iconst 1, 1) := by decide +kernel
theorem dL_storms_433 : decode cL_storms 433 = .ok (.iconst 0, 1) := by decide +kernel
theorem dL_storms_434 : decode cL_storms 434 = .ok (.iconst 0, 1) := by decide +kernel
theorem dL_storms_435 : decode cL_storms 435 = .ok (.iconst (-1), 1) := by decide +kernel
theorem dL_storms_436 : decode cL_storms 436 = .ok (.invokestatic 88, 3) := by decide +kernel
theorem dL_storms_439 : decode cL_storms 439 = .ok (.iconst 1, 1) := by decide +kernel
theorem dL_storms_440 : decode cL_storms 440 = .ok (.if_icmp .eq 5, 3) := by decide +kernel
theorem dL_storms_443 : decode cL_storms 443 = .ok (.iconst 0, 1) := by decide +kernel
theorem dL_storms_444 : decode cL_storms 444 = .ok (.ireturn, 1) := by decide +kernel
theorem dL_storms_445 : decode cL_storms 445 = .ok (.new 8, 3) := by decide +kernel
theorem dL_storms_448 : decode cL_storms 448 = .ok (.dup, 1) := by decide +kernel
theorem dL_storms_449 : decode cL_storms 449 = .ok (.invokespecial 99, 3) := by decide +kernel
theorem dL_storms_452 : decode cL_storms 452 = .ok (.astore_n 1, 1) := by decide +kernel
theorem dL_storms_453 : decode cL_storms 453 = .ok (.aload_n 1, 1) := by decide +kernel
theorem dL_storms_454 : decode cL_storms 454 = .ok (.iconst 0, 1) := by decide +kernel
theorem dL_storms_455 : decode cL_storms 455 = .ok (.invokevirtual 30, 3) := by decide +kernel
theorem dL_storms_458 : decode cL_storms 458 = .ok (.iconst 1, 1) := by decide +kernel
theorem dL_storms_459 : decode cL_storms 459 = .ok (.if_icmp .ne 205, 3) := by decide +kernel
theorem dL_storms_462 : decode cL_storms 462 = .ok (.aload_n 1, 1) := by decide +kernel
theorem dL_storms_463 : decode cL_storms 463 = .ok (.iconst 2, 1) := by decide +kernel
theorem dL_storms_464 : decode cL_storms 464 = .ok (.sipush 700, 3) := by decide +kernel
theorem dL_storms_467 : decode cL_storms 467 = .ok (.bipush 100, 2) := by decide +kernel
theorem dL_storms_469 : decode cL_storms 469 = .ok (.iconst 0, 1) := by decide +kernel
theorem dL_storms_470 : decode cL_storms 470 = .ok (.bipush 60, 2) := by decide +kernel
theorem dL_storms_472 : decode cL_storms 472 = .ok (.iconst 0, 1) := by decide +kernel
theorem dL_storms_473 : decode cL_storms 473 = .ok (.iconst (-1), 1) := by decide +kernel
theorem dL_storms_474 : decode cL_storms 474 = .ok (.invokevirtual 13, 3) := by decide +kernel
theorem dL_storms_477 : decode cL_storms 477 = .ok (.ifCond .ne 187, 3) := by decide +kernel
theorem dL_storms_480 : decode cL_storms 480 = .ok (.aload_n 1, 1) := by decide +kernel
theorem dL_storms_481 : decode cL_storms 481 = .ok (.iconst 2, 1) := by decide +kernel
theorem dL_storms_482 : decode cL_storms 482 = .ok (.sipush 800, 3) := by decide +kernel
theorem dL_storms_485 : decode cL_storms 485 = .ok (.bipush 100, 2) := by decide +kernel
theorem dL_storms_487 : decode cL_storms 487 = .ok (.iconst 0, 1) := by decide +kernel
theorem dL_storms_488 : decode cL_storms 488 = .ok (.bipush 60, 2) := by decide +kernel
theorem dL_storms_490 : decode cL_storms 490 = .ok (.iconst 0, 1) := by decide +kernel
theorem dL_storms_491 : decode cL_storms 491 = .ok (.iconst (-1), 1) := by decide +kernel
theorem dL_storms_492 : decode cL_storms 492 = .ok (.invokevirtual 13, 3) := by decide +kernel
theorem dL_storms_495 : decode cL_storms 495 = .ok (.iconst 1, 1) := by decide +kernel
theorem dL_storms_496 : decode cL_storms 496 = .ok (.if_icmp .ne 168, 3) := by decide +kernel
theorem dL_storms_499 : decode cL_storms 499 = .ok (.aload_n 1, 1) := by decide +kernel
theorem dL_storms_500 : decode cL_storms 500 = .ok (.iconst 2, 1) := by decide +kernel
theorem dL_storms_501 : decode cL_storms 501 = .ok (.sipush 900, 3) := by decide +kernel
theorem dL_storms_504 : decode cL_storms 504 = .ok (.bipush 100, 2) := by decide +kernel
theorem dL_storms_506 : decode cL_storms 506 = .ok (.iconst 0, 1) := by decide +kernel
theorem dL_storms_507 : decode cL_storms 507 = .ok (.bipush 60, 2) := by decide +kernel
theorem dL_storms_509 : decode cL_storms 509 = .ok (.iconst 0, 1) := by decide +kernel
theorem dL_storms_510 : decode cL_storms 510 = .ok (.iconst (-1), 1) := by decide +kernel
theorem dL_storms_511 : decode cL_storms 511 = .ok (.invokevirtual 13, 3) := by decide +kernel
theorem dL_storms_514 : decode cL_storms 514 = .ok (.iconst 2, 1) := by decide +kernel
theorem dL_storms_515 : decode cL_storms 515 = .ok (.if_icmp .ne 149, 3) := by decide +kernel
theorem dL_storms_518 : decode cL_storms 518 = .ok (.aload_n 1, 1) := by decide +kernel
theorem dL_storms_519 : decode cL_storms 519 = .ok (.iconst 0, 1) := by decide +kernel
theorem dL_storms_520 : decode cL_storms 520 = .ok (.sipush 960, 3) := by decide +kernel
theorem dL_storms_523 : decode cL_storms 523 = .ok (.bipush 30, 2) := by decide +kernel
theorem dL_storms_525 : decode cL_storms 525 = .ok (.iconst 0, 1) := by decide +kernel
theorem dL_storms_526 : decode cL_storms 526 = .ok (.bipush 50, 2) := by decide +kernel
theorem dL_storms_528 : decode cL_storms 528 = .ok (.iconst 0, 1) := by decide +kernel
theorem dL_storms_529 : decode cL_storms 529 = .ok (.iconst (-1), 1) := by decide +kernel
theorem dL_storms_530 : decode cL_storms 530 = .ok (.invokevirtual 13, 3) := by decide +kernel
theorem dL_storms_533 : decode cL_storms 533 = .ok (.iconst (-1), 1) := by decide +kernel
theorem dL_storms_534 : decode cL_storms 534 = .ok (.if_icmp .ne 130, 3) := by decide +kernel
theorem dL_storms_537 : decode cL_storms 537 = .ok (.aload_n 1, 1) := by decide +kernel
theorem dL_storms_538 : decode cL_storms 538 = .ok (.iconst 0, 1) := by decide +kernel
theorem dL_storms_539 : decode cL_storms 539 = .ok (.sipush 960, 3) := by decide +kernel
theorem dL_storms_542 : decode cL_storms 542 = .ok (.bipush 30, 2) := by decide +kernel
theorem dL_storms_544 : decode cL_storms 544 = .ok (.iconst 0, 1) := by decide +kernel
theorem dL_storms_545 : decode cL_storms 545 = .ok (.bipush 40, 2) := by decide +kernel
theorem dL_storms_547 : decode cL_storms 547 = .ok (.iconst 0, 1) := by decide +kernel
theorem dL_storms_548 : decode cL_storms 548 = .ok (.iconst (-1), 1) := by decide +kernel
theorem dL_storms_549 : decode cL_storms 549 = .ok (.invokevirtual 13, 3) := by decide +kernel
theorem dL_storms_552 : decode cL_storms 552 = .ok (.iconst 3, 1) := by decide +kernel
theorem dL_storms_553 : decode cL_storms 553 = .ok (.if_icmp .ne 111, 3) := by decide +kernel
theorem dL_storms_556 : decode cL_storms 556 = .ok (.aload_n 1, 1) := by decide +kernel
theorem dL_storms_557 : decode cL_storms 557 = .ok (.iconst 2, 1) := by decide +kernel
theorem dL_storms_558 : decode cL_storms 558 = .ok (.sipush 790, 3) := by decide +kernel
theorem dL_storms_561 : decode cL_storms 561 = .ok (.bipush 20, 2) := by decide +kernel
theorem dL_storms_563 : decode cL_storms 563 = .ok (.invokevirtual 61, 3) := by decide +kernel
theorem dL_storms_566 : decode cL_storms 566 = .ok (.iconst 2, 1) := by decide +kernel
theorem dL_storms_567 : decode cL_storms 567 = .ok (.if_icmp .ne 97, 3) := by decide +kernel
theorem dL_storms_570 : decode cL_storms 570 = .ok (.aload_n 1, 1) := by decide +kernel
theorem dL_storms_571 : decode cL_storms 571 = .ok (.iconst 0, 1) := by decide +kernel
theorem dL_storms_572 : decode cL_storms 572 = .ok (.invokevirtual 47, 3) := by decide +kernel
theorem dL_storms_575 : decode cL_storms 575 = .ok (.iconst (-1), 1) := by decide +kernel
theorem dL_storms_576 : decode cL_storms 576 = .ok (.if_icmp .ne 88, 3) := by decide +kernel
theorem dL_storms_579 : decode cL_storms 579 = .ok (.aload_n 1, 1) := by decide +kernel
theorem dL_storms_580 : decode cL_storms 580 = .ok (.iconst 1, 1) := by decide +kernel
theorem dL_storms_581 : decode cL_storms 581 = .ok (.invokevirtual 47, 3) := by decide +kernel
theorem dL_storms_584 : decode cL_storms 584 = .ok (.iconst (-1), 1) := by decide +kernel
theorem dL_storms_585 : decode cL_storms 585 = .ok (.if_icmp .ne 79, 3) := by decide +kernel
theorem dL_storms_588 : decode cL_storms 588 = .ok (.aload_n 1, 1) := by decide +kernel
theorem dL_storms_589 : decode cL_storms 589 = .ok (.iconst 2, 1) := by decide +kernel
theorem dL_storms_590 : decode cL_storms 590 = .ok (.invokevirtual 47, 3) := by decide +kernel
theorem dL_storms_593 : decode cL_storms 593 = .ok (.sipush 900, 3) := by decide +kernel
theorem dL_storms_596 : decode cL_storms 596 = .ok (.if_icmp .ne 68, 3) := by decide +kernel
theorem dL_storms_599 : decode cL_storms 599 = .ok (.aload_n 1, 1) := by decide +kernel
theorem dL_storms_600 : decode cL_storms 600 = .ok (.iconst 4, 1) := by decide +kernel
theorem dL_storms_601 : decode cL_storms 601 = .ok (.iconst 0, 1) := by decide +kernel
theorem dL_storms_602 : decode cL_storms 602 = .ok (.iconst 0, 1) := by decide +kernel
theorem dL_storms_603 : decode cL_storms 603 = .ok (.iconst 0, 1) := by decide +kernel
theorem dL_storms_604 : decode cL_storms 604 = .ok (.invokestatic 79, 3) := by decide +kernel
theorem dL_storms_607 : decode cL_storms 607 = .ok (.bipush (-73), 2) := by decide +kernel
theorem dL_storms_609 : decode cL_storms 609 = .ok (.if_icmp .ne 55, 3) := by decide +kernel
theorem dL_storms_612 : decode cL_storms 612 = .ok (.aload_n 1, 1) := by decide +kernel
theorem dL_storms_613 : decode cL_storms 613 = .ok (.iconst 2, 1) := by decide +kernel
theorem dL_storms_614 : decode cL_storms 614 = .ok (.sipush 999, 3) := by decide +kernel
theorem dL_storms_617 : decode cL_storms 617 = .ok (.sipush 200, 3) := by decide +kernel
theorem dL_storms_620 : decode cL_storms 620 = .ok (.invokevirtual 61, 3) := by decide +kernel
theorem dL_storms_623 : decode cL_storms 623 = .ok (.iconst 1, 1) := by decide +kernel
theorem dL_storms_624 : decode cL_storms 624 = .ok (.if_icmp .ne 40, 3) := by decide +kernel
theorem dL_storms_627 : decode cL_storms 627 = .ok (.aload_n 1, 1) := by decide +kernel
theorem dL_storms_628 : decode cL_storms 628 = .ok (.iconst 2, 1) := by decide +kernel
theorem dL_storms_629 : decode cL_storms 629 = .ok (.invokevirtual 47, 3) := by decide +kernel
theorem dL_storms_632 : decode cL_storms 632 = .ok (.iconst (-1), 1) := by decide +kernel
theorem dL_storms_633 : decode cL_storms 633 = .ok (.if_icmp .ne 31, 3) := by decide +kernel
theorem dL_storms_636 : decode cL_storms 636 = .ok (.aload_n 1, 1) := by decide +kernel
theorem dL_storms_637 : decode cL_storms 637 = .ok (.sipush 960, 3) := by decide +kernel
theorem dL_storms_640 : decode cL_storms 640 = .ok (.iconst 0, 1) := by decide +kernel
theorem dL_storms_641 : decode cL_storms 641 = .ok (.invokevirtual 65, 3) := by decide +kernel
theorem dL_storms_644 : decode cL_storms 644 = .ok (.bipush 40, 2) := by decide +kernel
theorem dL_storms_646 : decode cL_storms 646 = .ok (.if_icmp .ne 18, 3) := by decide +kernel
theorem dL_storms_649 : decode cL_storms 649 = .ok (.aload_n 1, 1) := by decide +kernel
theorem dL_storms_650 : decode cL_storms 650 = .ok (.invokevirtual 74, 3) := by decide +kernel
theorem dL_storms_653 : decode cL_storms 653 = .ok (.ifCond .eq 11, 3) := by decide +kernel
theorem dL_storms_656 : decode cL_storms 656 = .ok (.aload_n 1, 1) := by decide +kernel
theorem dL_storms_657 : decode cL_storms 657 = .ok (.iconst 4, 1) := by decide +kernel
theorem dL_storms_658 : decode cL_storms 658 = .ok (.invokestatic 100, 3) := by decide +kernel
theorem dL_storms_661 : decode cL_storms 661 = .ok (.ifCond .ne 5, 3) := by decide +kernel
theorem dL_storms_664 : decode cL_storms 664 = .ok (.iconst 0, 1) := by decide +kernel
theorem dL_storms_665 : decode cL_storms 665 = .ok (.ireturn, 1) := by decide +kernel
theorem dL_storms_666 : decode cL_storms 666 = .ok (.iconst 4, 1) := by decide +kernel
theorem dL_storms_667 : decode cL_storms 667 = .ok (.istore_n 2, 1) := by decide +kernel
theorem dL_storms_668 : decode cL_storms 668 = .ok (.iload_n 2, 1) := by decide +kernel
theorem dL_storms_669 : decode cL_storms 669 = .ok (.bipush 17, 2) := by decide +kernel
theorem dL_storms_671 : decode cL_storms 671 = .ok (.if_icmp .ge 79, 3) := by decide +kernel
theorem dL_storms_674 : decode cL_storms 674 = .ok (.aload_n 1, 1) := by decide +kernel
theorem dL_storms_675 : decode cL_storms 675 = .ok (.iconst 0, 1) := by decide +kernel
theorem dL_storms_676 : decode cL_storms 676 = .ok (.iconst 1, 1) := by decide +kernel
theorem dL_storms_677 : decode cL_storms 677 = .ok (.bipush 10, 2) := by decide +kernel
theorem dL_storms_679 : decode cL_storms 679 = .ok (.iload_n 2, 1) := by decide +kernel
theorem dL_storms_680 : decode cL_storms 680 = .ok (.imul, 1) := by decide +kernel
theorem dL_storms_681 : decode cL_storms 681 = .ok (.bipush 10, 2) := by decide +kernel
theorem dL_storms_683 : decode cL_storms 683 = .ok (.iconst 2, 1) := by decide +kernel
theorem dL_storms_684 : decode cL_storms 684 = .ok (.iconst 0, 1) := by decide +kernel
theorem dL_storms_685 : decode cL_storms 685 = .ok (.iconst 0, 1) := by decide +kernel
theorem dL_storms_686 : decode cL_storms 686 = .ok (.iload_n 2, 1) := by decide +kernel
theorem dL_storms_687 : decode cL_storms 687 = .ok (.iconst 2, 1) := by decide +kernel
theorem dL_storms_688 : decode cL_storms 688 = .ok (.irem, 1) := by decide +kernel
theorem dL_storms_689 : decode cL_storms 689 = .ok (.ifCond .ne 7, 3) := by decide +kernel
theorem dL_storms_692 : decode cL_storms 692 = .ok (.iconst 3, 1) := by decide +kernel
theorem dL_storms_693 : decode cL_storms 693 = .ok (.goto 4, 3) := by decide +kernel
theorem dL_storms_696 : decode cL_storms 696 = .ok (.iconst (-1), 1) := by decide +kernel
theorem dL_storms_697 : decode cL_storms 697 = .ok (.invokestatic 88, 3) := by decide +kernel
theorem dL_storms_700 : decode cL_storms 700 = .ok (.iload_n 2, 1) := by decide +kernel
theorem dL_storms_701 : decode cL_storms 701 = .ok (.bipush 16, 2) := by decide +kernel
theorem dL_storms_703 : decode cL_storms 703 = .ok (.if_icmp .ge 7, 3) := by decide +kernel
theorem dL_storms_706 : decode cL_storms 706 = .ok (.iload_n 2, 1) := by decide +kernel
theorem dL_storms_707 : decode cL_storms 707 = .ok (.goto 5, 3) := by decide +kernel
theorem dL_storms_710 : decode cL_storms 710 = .ok (.bipush (-73), 2) := by decide +kernel
theorem dL_storms_712 : decode cL_storms 712 = .ok (.if_icmp .ne 30, 3) := by decide +kernel
theorem dL_storms_715 : decode cL_storms 715 = .ok (.aload_n 1, 1) := by decide +kernel
theorem dL_storms_716 : decode cL_storms 716 = .ok (.iconst 1, 1) := by decide +kernel
theorem dL_storms_717 : decode cL_storms 717 = .ok (.iconst 1, 1) := by decide +kernel
theorem dL_storms_718 : decode cL_storms 718 = .ok (.iconst 0, 1) := by decide +kernel
theorem dL_storms_719 : decode cL_storms 719 = .ok (.iconst 1, 1) := by decide +kernel
theorem dL_storms_720 : decode cL_storms 720 = .ok (.iconst 2, 1) := by decide +kernel
theorem dL_storms_721 : decode cL_storms 721 = .ok (.iconst 0, 1) := by decide +kernel
theorem dL_storms_722 : decode cL_storms 722 = .ok (.iconst 0, 1) := by decide +kernel
theorem dL_storms_723 : decode cL_storms 723 = .ok (.iconst (-1), 1) := by decide +kernel
theorem dL_storms_724 : decode cL_storms 724 = .ok (.invokestatic 88, 3) := by decide +kernel
theorem dL_storms_727 : decode cL_storms 727 = .ok (.iload_n 2, 1) := by decide +kernel
theorem dL_storms_728 : decode cL_storms 728 = .ok (.bipush 15, 2) := by decide +kernel
theorem dL_storms_730 : decode cL_storms 730 = .ok (.if_icmp .ge 7, 3) := by decide +kernel
theorem dL_storms_733 : decode cL_storms 733 = .ok (.iconst 0, 1) := by decide +kernel
theorem dL_storms_734 : decode cL_storms 734 = .ok (.goto 5, 3) := by decide +kernel
theorem dL_storms_737 : decode cL_storms 737 = .ok (.bipush (-73), 2) := by decide +kernel
theorem dL_storms_739 : decode cL_storms 739 = .ok (.if_icmp .eq 5, 3) := by decide +kernel
theorem dL_storms_742 : decode cL_storms 742 = .ok (.iconst 0, 1) := by decide +kernel
theorem dL_storms_743 : decode cL_storms 743 = .ok (.ireturn, 1) := by decide +kernel
theorem dL_storms_744 : decode cL_storms 744 = .ok (.iinc 2 1, 3) := by decide +kernel
theorem dL_storms_747 : decode cL_storms 747 = .ok (.goto (-79), 3) := by decide +kernel
theorem dL_storms_750 : decode cL_storms 750 = .ok (.iconst 2, 1) := by decide +kernel
theorem dL_storms_751 : decode cL_storms 751 = .ok (.istore_n 2, 1) := by decide +kernel
theorem dL_storms_752 : decode cL_storms 752 = .ok (.iload_n 2, 1) := by decide +kernel
theorem dL_storms_753 : decode cL_storms 753 = .ok (.bipush 8, 2) := by decide +kernel
theorem dL_storms_755 : decode cL_storms 755 = .ok (.if_icmp .ge 37, 3) := by decide +kernel
theorem dL_storms_758 : decode cL_storms 758 = .ok (.aload_n 1, 1) := by decide +kernel
theorem dL_storms_759 : decode cL_storms 759 = .ok (.iconst 0, 1) := by decide +kernel
theorem dL_storms_760 : decode cL_storms 760 = .ok (.bipush 100, 2) := by decide +kernel
theorem dL_storms_762 : decode cL_storms 762 = .ok (.iload_n 2, 1) := by decide +kernel
theorem dL_storms_763 : decode cL_storms 763 = .ok (.imul, 1) := by decide +kernel
theorem dL_storms_764 : decode cL_storms 764 = .ok (.iconst 0, 1) := by decide +kernel
theorem dL_storms_765 : decode cL_storms 765 = .ok (.iconst 0, 1) := by decide +kernel
theorem dL_storms_766 : decode cL_storms 766 = .ok (.invokestatic 79, 3) := by decide +kernel
theorem dL_storms_769 : decode cL_storms 769 = .ok (.iload_n 2, 1) := by decide +kernel
theorem dL_storms_770 : decode cL_storms 770 = .ok (.bipush 7, 2) := by decide +kernel
theorem dL_storms_772 : decode cL_storms 772 = .ok (.if_icmp .ge 7, 3) := by decide +kernel
theorem dL_storms_775 : decode cL_storms 775 = .ok (.iload_n 2, 1) := by decide +kernel
theorem dL_storms_776 : decode cL_storms 776 = .ok (.goto 5, 3) := by decide +kernel
theorem dL_storms_779 : decode cL_storms 779 = .ok (.bipush (-73), 2) := by decide +kernel
theorem dL_storms_781 : decode cL_storms 781 = .ok (.if_icmp .eq 5, 3) := by decide +kernel
theorem dL_storms_784 : decode cL_storms 784 = .ok (.iconst 0, 1) := by decide +kernel
theorem dL_storms_785 : decode cL_storms 785 = .ok (.ireturn, 1) := by decide +kernel
theorem dL_storms_786 : decode cL_storms 786 = .ok (.iinc 2 1, 3) := by decide +kernel
theorem dL_storms_789 : decode cL_storms 789 = .ok (.goto (-37), 3) := by decide +kernel
theorem dL_storms_792 : decode cL_storms 792 = .ok (.aload_n 1, 1) := by decide +kernel
theorem dL_storms_793 : decode cL_storms 793 = .ok (.sipush 999, 3) := by decide +kernel
theorem dL_storms_796 : decode cL_storms 796 = .ok (.iconst 1, 1) := by decide +kernel
theorem dL_storms_797 : decode cL_storms 797 = .ok (.invokevirtual 65, 3) := by decide +kernel
theorem dL_storms_800 : decode cL_storms 800 = .ok (.ifCond .ne 31, 3) := by decide +kernel
theorem dL_storms_803 : decode cL_storms 803 = .ok (.aload_n 1, 1) := by decide +kernel
theorem dL_storms_804 : decode cL_storms 804 = .ok (.iconst 0, 1) := by decide +kernel
theorem dL_storms_805 : decode cL_storms 805 = .ok (.sipush 705, 3) := by decide +kernel
theorem dL_storms_808 : decode cL_storms 808 = .ok (.iconst 0, 1) := by decide +kernel
theorem dL_storms_809 : decode cL_storms 809 = .ok (.iconst 0, 1) := by decide +kernel
theorem dL_storms_810 : decode cL_storms 810 = .ok (.invokestatic 79, 3) := by decide +kernel
theorem dL_storms_813 : decode cL_storms 813 = .ok (.bipush (-73), 2) := by decide +kernel
theorem dL_storms_815 : decode cL_storms 815 = .ok (.if_icmp .ne 16, 3) := by decide +kernel
theorem dL_storms_818 : decode cL_storms 818 = .ok (.aload_n 1, 1) := by decide +kernel
theorem dL_storms_819 : decode cL_storms 819 = .ok (.bipush 16, 2) := by decide +kernel
theorem dL_storms_821 : decode cL_storms 821 = .ok (.invokestatic 100, 3) := by decide +kernel
theorem dL_storms_824 : decode cL_storms 824 = .ok (.ifCond .eq 7, 3) := by decide +kernel
theorem dL_storms_827 : decode cL_storms 827 = .ok (.iconst 1, 1) := by decide +kernel
theorem dL_storms_828 : decode cL_storms 828 = .ok (.goto 4, 3) := by decide +kernel
theorem dL_storms_831 : decode cL_storms 831 = .ok (.iconst 0, 1) := by decide +kernel
theorem dL_storms_832 : decode cL_storms 832 = .ok (.ireturn, 1) := by decide +kernel
theorem dL_law_0 : decode cL_law 0 = .ok (.invokestatic 116, 3) := by decide +kernel
theorem dL_law_3 : decode cL_law 3 = .ok (.ifCond .eq 15, 3) := by decide +kernel
theorem dL_law_6 : decode cL_law 6 = .ok (.invokestatic 119, 3) := by decide +kernel
theorem dL_law_9 : decode cL_law 9 = .ok (.ifCond .eq 9, 3) := by decide +kernel
theorem dL_law_12 : decode cL_law 12 = .ok (.invokestatic 122, 3) := by decide +kernel
theorem dL_law_15 : decode cL_law 15 = .ok (.ifCond .ne 5, 3) := by decide +kernel
theorem dL_law_18 : decode cL_law 18 = .ok (.iconst 0, 1) := by decide +kernel
theorem dL_law_19 : decode cL_law 19 = .ok (.ireturn, 1) := by decide +kernel
theorem dL_law_20 : decode cL_law 20 = .ok (.new 8, 3) := by decide +kernel
theorem dL_law_23 : decode cL_law 23 = .ok (.dup, 1) := by decide +kernel
theorem dL_law_24 : decode cL_law 24 = .ok (.invokespecial 99, 3) := by decide +kernel
theorem dL_law_27 : decode cL_law 27 = .ok (.astore_n 1, 1) := by decide +kernel
theorem dL_law_28 : decode cL_law 28 = .ok (.aload_n 1, 1) := by decide +kernel
theorem dL_law_29 : decode cL_law 29 = .ok (.iconst 0, 1) := by decide +kernel
theorem dL_law_30 : decode cL_law 30 = .ok (.invokevirtual 30, 3) := by decide +kernel
theorem dL_law_33 : decode cL_law 33 = .ok (.iconst 1, 1) := by decide +kernel
theorem dL_law_34 : decode cL_law 34 = .ok (.if_icmp .eq 5, 3) := by decide +kernel
theorem dL_law_37 : decode cL_law 37 = .ok (.iconst 0, 1) := by decide +kernel
theorem dL_law_38 : decode cL_law 38 = .ok (.ireturn, 1) := by decide +kernel
theorem dL_law_39 : decode cL_law 39 = .ok (.iconst 0, 1) := by decide +kernel
theorem dL_law_40 : decode cL_law 40 = .ok (.istore_n 2, 1) := by decide +kernel
theorem dL_law_41 : decode cL_law 41 = .ok (.iconst 0, 1) := by decide +kernel
theorem dL_law_42 : decode cL_law 42 = .ok (.istore_n 3, 1) := by decide +kernel
theorem dL_law_43 : decode cL_law 43 = .ok (.iload_n 3, 1) := by decide +kernel
theorem dL_law_44 : decode cL_law 44 = .ok (.bipush 16, 2) := by decide +kernel
theorem dL_law_46 : decode cL_law 46 = .ok (.if_icmp .ge 204, 3) := by decide +kernel
theorem dL_law_49 : decode cL_law 49 = .ok (.aload_n 0, 1) := by decide +kernel
theorem dL_law_50 : decode cL_law 50 = .ok (.arraylength, 1) := by decide +kernel
theorem dL_law_51 : decode cL_law 51 = .ok (.ifCond .ne 10, 3) := by decide +kernel
theorem dL_law_54 : decode cL_law 54 = .ok (.bipush 61, 2) := by decide +kernel
theorem dL_law_56 : decode cL_law 56 = .ok (.iload_n 3, 1) := by decide +kernel
theorem dL_law_57 : decode cL_law 57 = .ok (.imul, 1) := by decide +kernel
theorem dL_law_58 : decode cL_law 58 = .ok (.goto 12, 3) := by decide +kernel
theorem dL_law_61 : decode cL_law 61 = .ok (.aload_n 0, 1) := by decide +kernel
theorem dL_law_62 : decode cL_law 62 = .ok (.iload_n 3, 1) := by decide +kernel
theorem dL_law_63 : decode cL_law 63 = .ok (.aload_n 0, 1) := by decide +kernel
theorem dL_law_64 : decode cL_law 64 = .ok (.arraylength, 1) := by decide +kernel
theorem dL_law_65 : decode cL_law 65 = .ok (.irem, 1) := by decide +kernel
theorem dL_law_66 : decode cL_law 66 = .ok (.iaload, 1) := by decide +kernel
theorem dL_law_67 : decode cL_law 67 = .ok (.bipush 8, 2) := by decide +kernel
theorem dL_law_69 : decode cL_law 69 = .ok (.iushr, 1) := by decide +kernel
theorem dL_law_70 : decode cL_law 70 = .ok (.istore 4, 2) := by decide +kernel
theorem dL_law_72 : decode cL_law 72 = .ok (.aload_n 1, 1) := by decide +kernel
theorem dL_law_73 : decode cL_law 73 = .ok (.iload 4, 2) := by decide +kernel
theorem dL_law_75 : decode cL_law 75 = .ok (.iconst 3, 1) := by decide +kernel
theorem dL_law_76 : decode cL_law 76 = .ok (.irem, 1) := by decide +kernel
theorem dL_law_77 : decode cL_law 77 = .ok (.iload 4, 2) := by decide +kernel
theorem dL_law_79 : decode cL_law 79 = .ok (.sipush 1000, 3) := by decide +kernel
theorem dL_law_82 : decode cL_law 82 = .ok (.irem, 1) := by decide +kernel
theorem dL_law_83 : decode cL_law 83 = .ok (.iconst 1, 1) := by decide +kernel
theorem dL_law_84 : decode cL_law 84 = .ok (.iload 4, 2) := by decide +kernel
theorem dL_law_86 : decode cL_law 86 = .ok (.sipush 200, 3) := by decide +kernel
theorem dL_law_89 : decode cL_law 89 = .ok (.irem, 1) := by decide +kernel
theorem dL_law_90 : decode cL_law 90 = .ok (.iadd, 1) := by decide +kernel
theorem dL_law_91 : decode cL_law 91 = .ok (.iload 4, 2) := by decide +kernel
theorem dL_law_93 : decode cL_law 93 = .ok (.iconst 3, 1) := by decide +kernel
theorem dL_law_94 : decode cL_law 94 = .ok (.idiv, 1) := by decide +kernel
theorem dL_law_95 : decode cL_law 95 = .ok (.iconst 3, 1) := by decide +kernel
theorem dL_law_96 : decode cL_law 96 = .ok (.irem, 1) := by decide +kernel
theorem dL_law_97 : decode cL_law 97 = .ok (.iload 4, 2) := by decide +kernel
theorem dL_law_99 : decode cL_law 99 = .ok (.bipush 90, 2) := by decide +kernel
theorem dL_law_101 : decode cL_law 101 = .ok (.irem, 1) := by decide +kernel
theorem dL_law_102 : decode cL_law 102 = .ok (.iload 4, 2) := by decide +kernel
theorem dL_law_104 : decode cL_law 104 = .ok (.bipush 80, 2) := by decide +kernel
theorem dL_law_106 : decode cL_law 106 = .ok (.irem, 1) := by decide +kernel
theorem dL_law_107 : decode cL_law 107 = .ok (.iload 4, 2) := by decide +kernel
theorem dL_law_109 : decode cL_law 109 = .ok (.bipush 33, 2) := by decide +kernel
theorem dL_law_111 : decode cL_law 111 = .ok (.irem, 1) := by decide +kernel
theorem dL_law_112 : decode cL_law 112 = .ok (.iconst 1, 1) := by decide +kernel
theorem dL_law_113 : decode cL_law 113 = .ok (.isub, 1) := by decide +kernel
theorem dL_law_114 : decode cL_law 114 = .ok (.invokevirtual 7, 3) := by decide +kernel
theorem dL_law_117 : decode cL_law 117 = .ok (.istore 5, 2) := by decide +kernel
theorem dL_law_119 : decode cL_law 119 = .ok (.aload_n 1, 1) := by decide +kernel
theorem dL_law_120 : decode cL_law 120 = .ok (.iload 4, 2) := by decide +kernel
theorem dL_law_122 : decode cL_law 122 = .ok (.iconst 3, 1) := by decide +kernel
theorem dL_law_123 : decode cL_law 123 = .ok (.irem, 1) := by decide +kernel
theorem dL_law_124 : decode cL_law 124 = .ok (.iload 4, 2) := by decide +kernel
theorem dL_law_126 : decode cL_law 126 = .ok (.sipush 1000, 3) := by decide +kernel
theorem dL_law_129 : decode cL_law 129 = .ok (.irem, 1) := by decide +kernel
theorem dL_law_130 : decode cL_law 130 = .ok (.iconst 1, 1) := by decide +kernel
theorem dL_law_131 : decode cL_law 131 = .ok (.iload 4, 2) := by decide +kernel
theorem dL_law_133 : decode cL_law 133 = .ok (.sipush 200, 3) := by decide +kernel
theorem dL_law_136 : decode cL_law 136 = .ok (.irem, 1) := by decide +kernel
theorem dL_law_137 : decode cL_law 137 = .ok (.iadd, 1) := by decide +kernel
theorem dL_law_138 : decode cL_law 138 = .ok (.iload 4, 2) := by decide +kernel
theorem dL_law_140 : decode cL_law 140 = .ok (.iconst 3, 1) := by decide +kernel
theorem dL_law_141 : decode cL_law 141 = .ok (.idiv, 1) := by decide +kernel
theorem dL_law_142 : decode cL_law 142 = .ok (.iconst 3, 1) := by decide +kernel
theorem dL_law_143 : decode cL_law 143 = .ok (.irem, 1) := by decide +kernel
theorem dL_law_144 : decode cL_law 144 = .ok (.iload 4, 2) := by decide +kernel
theorem dL_law_146 : decode cL_law 146 = .ok (.bipush 90, 2) := by decide +kernel
theorem dL_law_148 : decode cL_law 148 = .ok (.irem, 1) := by decide +kernel
theorem dL_law_149 : decode cL_law 149 = .ok (.iload 4, 2) := by decide +kernel
theorem dL_law_151 : decode cL_law 151 = .ok (.bipush 80, 2) := by decide +kernel
theorem dL_law_153 : decode cL_law 153 = .ok (.irem, 1) := by decide +kernel
theorem dL_law_154 : decode cL_law 154 = .ok (.iload 4, 2) := by decide +kernel
theorem dL_law_156 : decode cL_law 156 = .ok (.bipush 33, 2) := by decide +kernel
theorem dL_law_158 : decode cL_law 158 = .ok (.irem, 1) := by decide +kernel
theorem dL_law_159 : decode cL_law 159 = .ok (.iconst 1, 1) := by decide +kernel
theorem dL_law_160 : decode cL_law 160 = .ok (.isub, 1) := by decide +kernel
theorem dL_law_161 : decode cL_law 161 = .ok (.invokevirtual 13, 3) := by decide +kernel
theorem dL_law_164 : decode cL_law 164 = .ok (.istore 6, 2) := by decide +kernel
theorem dL_law_166 : decode cL_law 166 = .ok (.iload 6, 2) := by decide +kernel
theorem dL_law_168 : decode cL_law 168 = .ok (.iload 5, 2) := by decide +kernel
theorem dL_law_170 : decode cL_law 170 = .ok (.ifCond .ne 7, 3) := by decide +kernel
theorem dL_law_173 : decode cL_law 173 = .ok (.iload_n 2, 1) := by decide +kernel
theorem dL_law_174 : decode cL_law 174 = .ok (.goto 4, 3) := by decide +kernel
theorem dL_law_177 : decode cL_law 177 = .ok (.iconst (-1), 1) := by decide +kernel
theorem dL_law_178 : decode cL_law 178 = .ok (.if_icmp .ne 29, 3) := by decide +kernel
theorem dL_law_181 : decode cL_law 181 = .ok (.iload 5, 2) := by decide +kernel
theorem dL_law_183 : decode cL_law 183 = .ok (.ifCond .ne 17, 3) := by decide +kernel
theorem dL_law_186 : decode cL_law 186 = .ok (.aload_n 1, 1) := by decide +kernel
theorem dL_law_187 : decode cL_law 187 = .ok (.iload_n 2, 1) := by decide +kernel
theorem dL_law_188 : decode cL_law 188 = .ok (.invokevirtual 47, 3) := by decide +kernel
theorem dL_law_191 : decode cL_law 191 = .ok (.iload 4, 2) := by decide +kernel
theorem dL_law_193 : decode cL_law 193 = .ok (.sipush 1000, 3) := by decide +kernel
theorem dL_law_196 : decode cL_law 196 = .ok (.irem, 1) := by decide +kernel
theorem dL_law_197 : decode cL_law 197 = .ok (.if_icmp .ne 10, 3) := by decide +kernel
theorem dL_law_200 : decode cL_law 200 = .ok (.aload_n 1, 1) := by decide +kernel
theorem dL_law_201 : decode cL_law 201 = .ok (.invokevirtual 74, 3) := by decide +kernel
theorem dL_law_204 : decode cL_law 204 = .ok (.ifCond .ne 5, 3) := by decide +kernel
theorem dL_law_207 : decode cL_law 207 = .ok (.iconst 0, 1) := by decide +kernel
theorem dL_law_208 : decode cL_law 208 = .ok (.ireturn, 1) := by decide +kernel
theorem dL_law_209 : decode cL_law 209 = .ok (.iload_n 2, 1) := by decide +kernel
theorem dL_law_210 : decode cL_law 210 = .ok (.iload 6, 2) := by decide +kernel
theorem dL_law_212 : decode cL_law 212 = .ok (.ifCond .lt 7, 3) := by decide +kernel
theorem dL_law_215 : decode cL_law 215 = .ok (.iconst 1, 1) := by decide +kernel
theorem dL_law_216 : decode cL_law 216 = .ok (.goto 4, 3) := by decide +kernel
theorem dL_law_219 : decode cL_law 219 = .ok (.iconst 0, 1) := by decide +kernel
theorem dL_law_220 : decode cL_law 220 = .ok (.iadd, 1) := by decide +kernel
theorem dL_law_221 : decode cL_law 221 = .ok (.istore_n 2, 1) := by decide +kernel
theorem dL_law_222 : decode cL_law 222 = .ok (.iload_n 2, 1) := by decide +kernel
theorem dL_law_223 : decode cL_law 223 = .ok (.bipush 16, 2) := by decide +kernel
theorem dL_law_225 : decode cL_law 225 = .ok (.if_icmp .ge 19, 3) := by decide +kernel
theorem dL_law_228 : decode cL_law 228 = .ok (.iload_n 3, 1) := by decide +kernel
theorem dL_law_229 : decode cL_law 229 = .ok (.iconst 5, 1) := by decide +kernel
theorem dL_law_230 : decode cL_law 230 = .ok (.irem, 1) := by decide +kernel
theorem dL_law_231 : decode cL_law 231 = .ok (.ifCond .ne 13, 3) := by decide +kernel
theorem dL_law_234 : decode cL_law 234 = .ok (.aload_n 1, 1) := by decide +kernel
theorem dL_law_235 : decode cL_law 235 = .ok (.iload_n 2, 1) := by decide +kernel
theorem dL_law_236 : decode cL_law 236 = .ok (.invokestatic 100, 3) := by decide +kernel
theorem dL_law_239 : decode cL_law 239 = .ok (.ifCond .ne 5, 3) := by decide +kernel
theorem dL_law_242 : decode cL_law 242 = .ok (.iconst 0, 1) := by decide +kernel
theorem dL_law_243 : decode cL_law 243 = .ok (.ireturn, 1) := by decide +kernel
theorem dL_law_244 : decode cL_law 244 = .ok (.iinc 3 1, 3) := by decide +kernel
theorem dL_law_247 : decode cL_law 247 = .ok (.goto (-204), 3) := by decide +kernel
theorem dL_law_250 : decode cL_law 250 = .ok (.iconst 1, 1) := by decide +kernel
theorem dL_law_251 : decode cL_law 251 = .ok (.ireturn, 1) := by decide +kernel
theorem dJ5_init_d00df_0 : decode cJ5_init_d00df 0 = .ok (.aload_n 0, 1) := by decide +kernel
theorem dJ5_init_d00df_1 : decode cJ5_init_d00df 1 = .ok (.invokespecial 3, 3) := by decide +kernel
theorem dJ5_init_d00df_4 : decode cJ5_init_d00df 4 = .ok (.getstatic 18, 3) := by decide +kernel
theorem dJ5_init_d00df_7 : decode cJ5_init_d00df 7 = .ok (.ifCond .eq 18, 3) := by decide +kernel
theorem dJ5_init_d00df_10 : decode cJ5_init_d00df 10 = .ok (.aload_n 0, 1) := by decide +kernel
theorem dJ5_init_d00df_11 : decode cJ5_init_d00df 11 = .ok (.iload_n 1, 1) := by decide +kernel
theorem dJ5_init_d00df_12 : decode cJ5_init_d00df 12 = .ok (.newarray .byte, 2) := by decide +kernel
theorem dJ5_init_d00df_14 : decode cJ5_init_d00df 14 = .ok (.putfield 15, 3) := by decide +kernel
theorem dJ5_init_d00df_17 : decode cJ5_init_d00df 17 = .ok (.aload_n 0, 1) := by decide +kernel
theorem dJ5_init_d00df_18 : decode cJ5_init_d00df 18 = .ok (.iconst 0, 1) := by decide +kernel
theorem dJ5_init_d00df_19 : decode cJ5_init_d00df 19 = .ok (.putfield 22, 3) := by decide +kernel
theorem dJ5_init_d00df_22 : decode cJ5_init_d00df 22 = .ok (.goto 16, 3) := by decide +kernel
theorem dJ5_init_d00df_25 : decode cJ5_init_d00df 25 = .ok (.aload_n 0, 1) := by decide +kernel
theorem dJ5_init_d00df_26 : decode cJ5_init_d00df 26 = .ok (.iload_n 1, 1) := by decide +kernel
theorem dJ5_init_d00df_27 : decode cJ5_init_d00df 27 = .ok (.invokestatic 26, 3) := by decide +kernel
theorem dJ5_init_d00df_30 : decode cJ5_init_d00df 30 = .ok (.putfield 15, 3) := by decide +kernel
theorem dJ5_init_d00df_33 : decode cJ5_init_d00df 33 = .ok (.aload_n 0, 1) := by decide +kernel
theorem dJ5_init_d00df_34 : decode cJ5_init_d00df 34 = .ok (.iconst 1, 1) := by decide +kernel
theorem dJ5_init_d00df_35 : decode cJ5_init_d00df 35 = .ok (.putfield 22, 3) := by decide +kernel
theorem dJ5_init_d00df_38 : decode cJ5_init_d00df 38 = .ok (.return_, 1) := by decide +kernel
theorem dJ5_length_8abf5_0 : decode cJ5_length_8abf5 0 = .ok (.aload_n 0, 1) := by decide +kernel
theorem dJ5_length_8abf5_1 : decode cJ5_length_8abf5 1 = .ok (.getfield 79, 3) := by decide +kernel
theorem dJ5_length_8abf5_4 : decode cJ5_length_8abf5 4 = .ok (.ireturn, 1) := by decide +kernel
theorem dJ5_ensureCapacityInternal_d00df_0 : decode cJ5_ensureCapacityInternal_d00df 0 = .ok (.aload_n 0, 1) := by decide +kernel
theorem dJ5_ensureCapacityInternal_d00df_1 : decode cJ5_ensureCapacityInternal_d00df 1 = .ok (.getfield 15, 3) := by decide +kernel
theorem dJ5_ensureCapacityInternal_d00df_4 : decode cJ5_ensureCapacityInternal_d00df 4 = .ok (.arraylength, 1) := by decide +kernel
theorem dJ5_ensureCapacityInternal_d00df_5 : decode cJ5_ensureCapacityInternal_d00df 5 = .ok (.aload_n 0, 1) := by decide +kernel
theorem dJ5_ensureCapacityInternal_d00df_6 : decode cJ5_ensureCapacityInternal_d00df 6 = .ok (.getfield 22, 3) := by decide +kernel
theorem dJ5_ensureCapacityInternal_d00df_9 : decode cJ5_ensureCapacityInternal_d00df 9 = .ok (.ishr, 1) := by decide +kernel
theorem dJ5_ensureCapacityInternal_d00df_10 : decode cJ5_ensureCapacityInternal_d00df 10 = .ok (.istore_n 2, 1) := by decide +kernel
theorem dJ5_ensureCapacityInternal_d00df_11 : decode cJ5_ensureCapacityInternal_d00df 11 = .ok (.iload_n 1, 1) := by decide +kernel
theorem dJ5_ensureCapacityInternal_d00df_12 : decode cJ5_ensureCapacityInternal_d00df 12 = .ok (.iload_n 2, 1) := by decide +kernel
theorem dJ5_ensureCapacityInternal_d00df_13 : decode cJ5_ensureCapacityInternal_d00df 13 = .ok (.isub, 1) := by decide +kernel
theorem dJ5_ensureCapacityInternal_d00df_14 : decode cJ5_ensureCapacityInternal_d00df 14 = .ok (.ifCond .le 24, 3) := by decide +kernel
theorem dJ5_ensureCapacityInternal_d00df_17 : decode cJ5_ensureCapacityInternal_d00df 17 = .ok (.aload_n 0, 1) := by decide +kernel
theorem dJ5_ensureCapacityInternal_d00df_18 : decode cJ5_ensureCapacityInternal_d00df 18 = .ok (.aload_n 0, 1) := by decide +kernel
theorem dJ5_ensureCapacityInternal_d00df_19 : decode cJ5_ensureCapacityInternal_d00df 19 = .ok (.getfield 15, 3) := by decide +kernel
theorem dJ5_ensureCapacityInternal_d00df_22 : decode cJ5_ensureCapacityInternal_d00df 22 = .ok (.aload_n 0, 1) := by decide +kernel
theorem dJ5_ensureCapacityInternal_d00df_23 : decode cJ5_ensureCapacityInternal_d00df 23 = .ok (.iload_n 1, 1) := by decide +kernel
theorem dJ5_ensureCapacityInternal_d00df_24 : decode cJ5_ensureCapacityInternal_d00df 24 = .ok (.invokevirtual 104, 3) := by decide +kernel
theorem dJ5_ensureCapacityInternal_d00df_27 : decode cJ5_ensureCapacityInternal_d00df 27 = .ok (.aload_n 0, 1) := by decide +kernel
theorem dJ5_ensureCapacityInternal_d00df_28 : decode cJ5_ensureCapacityInternal_d00df 28 = .ok (.getfield 22, 3) := by decide +kernel
theorem dJ5_ensureCapacityInternal_d00df_31 : decode cJ5_ensureCapacityInternal_d00df 31 = .ok (.ishl, 1) := by decide +kernel
theorem dJ5_ensureCapacityInternal_d00df_32 : decode cJ5_ensureCapacityInternal_d00df 32 = .ok (.invokestatic 108, 3) := by decide +kernel
theorem dJ5_ensureCapacityInternal_d00df_35 : decode cJ5_ensureCapacityInternal_d00df 35 = .ok (.putfield 15, 3) := by decide +kernel
theorem dJ5_ensureCapacityInternal_d00df_38 : decode cJ5_ensureCapacityInternal_d00df 38 = .ok (.return_, 1) := by decide +kernel
theorem dJ5_newCapacity_0f7a4_0 : decode cJ5_newCapacity_0f7a4 0 = .ok (.aload_n 0, 1) := by decide +kernel
theorem dJ5_newCapacity_0f7a4_1 : decode cJ5_newCapacity_0f7a4 1 = .ok (.getfield 15, 3) := by decide +kernel
theorem dJ5_newCapacity_0f7a4_4 : decode cJ5_newCapacity_0f7a4 4 = .ok (.arraylength, 1) := by decide +kernel
theorem dJ5_newCapacity_0f7a4_5 : decode cJ5_newCapacity_0f7a4 5 = .ok (.istore_n 2, 1) := by decide +kernel
theorem dJ5_newCapacity_0f7a4_6 : decode cJ5_newCapacity_0f7a4 6 = .ok (.iload_n 1, 1) := by decide +kernel
theorem dJ5_newCapacity_0f7a4_7 : decode cJ5_newCapacity_0f7a4 7 = .ok (.aload_n 0, 1) := by decide +kernel
theorem dJ5_newCapacity_0f7a4_8 : decode cJ5_newCapacity_0f7a4 8 = .ok (.getfield 22, 3) := by decide +kernel
theorem dJ5_newCapacity_0f7a4_11 : decode cJ5_newCapacity_0f7a4 11 = .ok (.ishl, 1) := by decide +kernel
theorem dJ5_newCapacity_0f7a4_12 : decode cJ5_newCapacity_0f7a4 12 = .ok (.istore_n 3, 1) := by decide +kernel
theorem dJ5_newCapacity_0f7a4_13 : decode cJ5_newCapacity_0f7a4 13 = .ok (.iload_n 3, 1) := by decide +kernel
theorem dJ5_newCapacity_0f7a4_14 : decode cJ5_newCapacity_0f7a4 14 = .ok (.iload_n 2, 1) := by decide +kernel
theorem dJ5_newCapacity_0f7a4_15 : decode cJ5_newCapacity_0f7a4 15 = .ok (.isub, 1) := by decide +kernel
theorem dJ5_newCapacity_0f7a4_16 : decode cJ5_newCapacity_0f7a4 16 = .ok (.istore 4, 2) := by decide +kernel
theorem dJ5_newCapacity_0f7a4_18 : decode cJ5_newCapacity_0f7a4 18 = .ok (.iload_n 2, 1) := by decide +kernel
theorem dJ5_newCapacity_0f7a4_19 : decode cJ5_newCapacity_0f7a4 19 = .ok (.iload 4, 2) := by decide +kernel
theorem dJ5_newCapacity_0f7a4_21 : decode cJ5_newCapacity_0f7a4 21 = .ok (.iload_n 2, 1) := by decide +kernel
theorem dJ5_newCapacity_0f7a4_22 : decode cJ5_newCapacity_0f7a4 22 = .ok (.iconst 2, 1) := by decide +kernel
theorem dJ5_newCapacity_0f7a4_23 : decode cJ5_newCapacity_0f7a4 23 = .ok (.aload_n 0, 1) := by decide +kernel
theorem dJ5_newCapacity_0f7a4_24 : decode cJ5_newCapacity_0f7a4 24 = .ok (.getfield 22, 3) := by decide +kernel
theorem dJ5_newCapacity_0f7a4_27 : decode cJ5_newCapacity_0f7a4 27 = .ok (.ishl, 1) := by decide +kernel
theorem dJ5_newCapacity_0f7a4_28 : decode cJ5_newCapacity_0f7a4 28 = .ok (.iadd, 1) := by decide +kernel
theorem dJ5_newCapacity_0f7a4_29 : decode cJ5_newCapacity_0f7a4 29 = .ok (.invokestatic 114, 3) := by decide +kernel
theorem dJ5_newCapacity_0f7a4_32 : decode cJ5_newCapacity_0f7a4 32 = .ok (.istore 5, 2) := by decide +kernel
theorem dJ5_newCapacity_0f7a4_34 : decode cJ5_newCapacity_0f7a4 34 = .ok (.iload 5, 2) := by decide +kernel
theorem dJ5_newCapacity_0f7a4_36 : decode cJ5_newCapacity_0f7a4 36 = .ok (.ldc 39, 2) := by decide +kernel
theorem dJ5_newCapacity_0f7a4_38 : decode cJ5_newCapacity_0f7a4 38 = .ok (.if_icmp .ne 13, 3) := by decide +kernel
theorem dJ5_newCapacity_0f7a4_41 : decode cJ5_newCapacity_0f7a4 41 = .ok (.new 120, 3) := by decide +kernel
theorem dJ5_newCapacity_0f7a4_44 : decode cJ5_newCapacity_0f7a4 44 = .ok (.dup, 1) := by decide +kernel
theorem dJ5_newCapacity_0f7a4_45 : decode cJ5_newCapacity_0f7a4 45 = .ok (.ldc 122, 2) := by decide +kernel
theorem dJ5_newCapacity_0f7a4_47 : decode cJ5_newCapacity_0f7a4 47 = .ok (.invokespecial 124, 3) := by decide +kernel
theorem dJ5_newCapacity_0f7a4_50 : decode cJ5_newCapacity_0f7a4 50 = .ok (.athrow, 1) := by decide +kernel
theorem dJ5_newCapacity_0f7a4_51 : decode cJ5_newCapacity_0f7a4 51 = .ok (.iload 5, 2) := by decide +kernel
theorem dJ5_newCapacity_0f7a4_53 : decode cJ5_newCapacity_0f7a4 53 = .ok (.aload_n 0, 1) := by decide +kernel
theorem dJ5_newCapacity_0f7a4_54 : decode cJ5_newCapacity_0f7a4 54 = .ok (.getfield 22, 3) := by decide +kernel
theorem dJ5_newCapacity_0f7a4_57 : decode cJ5_newCapacity_0f7a4 57 = .ok (.ishr, 1) := by decide +kernel
theorem dJ5_newCapacity_0f7a4_58 : decode cJ5_newCapacity_0f7a4 58 = .ok (.ireturn, 1) := by decide +kernel
theorem dJ5_inflate_da8c8_0 : decode cJ5_inflate_da8c8 0 = .ok (.aload_n 0, 1) := by decide +kernel
theorem dJ5_inflate_da8c8_1 : decode cJ5_inflate_da8c8 1 = .ok (.invokevirtual 83, 3) := by decide +kernel
theorem dJ5_inflate_da8c8_4 : decode cJ5_inflate_da8c8 4 = .ok (.ifCond .ne 4, 3) := by decide +kernel
theorem dJ5_inflate_da8c8_7 : decode cJ5_inflate_da8c8 7 = .ok (.return_, 1) := by decide +kernel
theorem dJ5_inflate_da8c8_8 : decode cJ5_inflate_da8c8 8 = .ok (.aload_n 0, 1) := by decide +kernel
theorem dJ5_inflate_da8c8_9 : decode cJ5_inflate_da8c8 9 = .ok (.getfield 15, 3) := by decide +kernel
theorem dJ5_inflate_da8c8_12 : decode cJ5_inflate_da8c8 12 = .ok (.arraylength, 1) := by decide +kernel
theorem dJ5_inflate_da8c8_13 : decode cJ5_inflate_da8c8 13 = .ok (.invokestatic 26, 3) := by decide +kernel
theorem dJ5_inflate_da8c8_16 : decode cJ5_inflate_da8c8 16 = .ok (.astore_n 1, 1) := by decide +kernel
theorem dJ5_inflate_da8c8_17 : decode cJ5_inflate_da8c8 17 = .ok (.aload_n 0, 1) := by decide +kernel
theorem dJ5_inflate_da8c8_18 : decode cJ5_inflate_da8c8 18 = .ok (.getfield 15, 3) := by decide +kernel
theorem dJ5_inflate_da8c8_21 : decode cJ5_inflate_da8c8 21 = .ok (.iconst 0, 1) := by decide +kernel
theorem dJ5_inflate_da8c8_22 : decode cJ5_inflate_da8c8 22 = .ok (.aload_n 1, 1) := by decide +kernel
theorem dJ5_inflate_da8c8_23 : decode cJ5_inflate_da8c8 23 = .ok (.iconst 0, 1) := by decide +kernel
theorem dJ5_inflate_da8c8_24 : decode cJ5_inflate_da8c8 24 = .ok (.aload_n 0, 1) := by decide +kernel
theorem dJ5_inflate_da8c8_25 : decode cJ5_inflate_da8c8 25 = .ok (.getfield 79, 3) := by decide +kernel
theorem dJ5_inflate_da8c8_28 : decode cJ5_inflate_da8c8 28 = .ok (.invokestatic 125, 3) := by decide +kernel
theorem dJ5_inflate_da8c8_31 : decode cJ5_inflate_da8c8 31 = .ok (.aload_n 0, 1) := by decide +kernel
theorem dJ5_inflate_da8c8_32 : decode cJ5_inflate_da8c8 32 = .ok (.aload_n 1, 1) := by decide +kernel
theorem dJ5_inflate_da8c8_33 : decode cJ5_inflate_da8c8 33 = .ok (.putfield 15, 3) := by decide +kernel
theorem dJ5_inflate_da8c8_36 : decode cJ5_inflate_da8c8 36 = .ok (.aload_n 0, 1) := by decide +kernel
theorem dJ5_inflate_da8c8_37 : decode cJ5_inflate_da8c8 37 = .ok (.iconst 1, 1) := by decide +kernel
theorem dJ5_inflate_da8c8_38 : decode cJ5_inflate_da8c8 38 = .ok (.putfield 22, 3) := by decide +kernel
theorem dJ5_inflate_da8c8_41 : decode cJ5_inflate_da8c8 41 = .ok (.return_, 1) := by decide +kernel
theorem dJ5_setLength_d00df_0 : decode cJ5_setLength_d00df 0 = .ok (.iload_n 1, 1) := by decide +kernel
theorem dJ5_setLength_d00df_1 : decode cJ5_setLength_d00df 1 = .ok (.ifCond .ge 12, 3) := by decide +kernel
theorem dJ5_setLength_d00df_4 : decode cJ5_setLength_d00df 4 = .ok (.new 129, 3) := by decide +kernel
theorem dJ5_setLength_d00df_7 : decode cJ5_setLength_d00df 7 = .ok (.dup, 1) := by decide +kernel
theorem dJ5_setLength_d00df_8 : decode cJ5_setLength_d00df 8 = .ok (.iload_n 1, 1) := by decide +kernel
theorem dJ5_setLength_d00df_9 : decode cJ5_setLength_d00df 9 = .ok (.invokespecial 131, 3) := by decide +kernel
theorem dJ5_setLength_d00df_12 : decode cJ5_setLength_d00df 12 = .ok (.athrow, 1) := by decide +kernel
theorem dJ5_setLength_d00df_13 : decode cJ5_setLength_d00df 13 = .ok (.aload_n 0, 1) := by decide +kernel
theorem dJ5_setLength_d00df_14 : decode cJ5_setLength_d00df 14 = .ok (.iload_n 1, 1) := by decide +kernel
theorem dJ5_setLength_d00df_15 : decode cJ5_setLength_d00df 15 = .ok (.invokevirtual 100, 3) := by decide +kernel
theorem dJ5_setLength_d00df_18 : decode cJ5_setLength_d00df 18 = .ok (.aload_n 0, 1) := by decide +kernel
theorem dJ5_setLength_d00df_19 : decode cJ5_setLength_d00df 19 = .ok (.getfield 79, 3) := by decide +kernel
theorem dJ5_setLength_d00df_22 : decode cJ5_setLength_d00df 22 = .ok (.iload_n 1, 1) := by decide +kernel
theorem dJ5_setLength_d00df_23 : decode cJ5_setLength_d00df 23 = .ok (.if_icmp .ge 40, 3) := by decide +kernel
theorem dJ5_setLength_d00df_26 : decode cJ5_setLength_d00df 26 = .ok (.aload_n 0, 1) := by decide +kernel
theorem dJ5_setLength_d00df_27 : decode cJ5_setLength_d00df 27 = .ok (.invokevirtual 83, 3) := by decide +kernel
theorem dJ5_setLength_d00df_30 : decode cJ5_setLength_d00df 30 = .ok (.ifCond .eq 18, 3) := by decide +kernel
theorem dJ5_setLength_d00df_33 : decode cJ5_setLength_d00df 33 = .ok (.aload_n 0, 1) := by decide +kernel
theorem dJ5_setLength_d00df_34 : decode cJ5_setLength_d00df 34 = .ok (.getfield 15, 3) := by decide +kernel
theorem dJ5_setLength_d00df_37 : decode cJ5_setLength_d00df 37 = .ok (.aload_n 0, 1) := by decide +kernel
theorem dJ5_setLength_d00df_38 : decode cJ5_setLength_d00df 38 = .ok (.getfield 79, 3) := by decide +kernel
theorem dJ5_setLength_d00df_41 : decode cJ5_setLength_d00df 41 = .ok (.iload_n 1, 1) := by decide +kernel
theorem dJ5_setLength_d00df_42 : decode cJ5_setLength_d00df 42 = .ok (.invokestatic 133, 3) := by decide +kernel
theorem dJ5_setLength_d00df_45 : decode cJ5_setLength_d00df 45 = .ok (.goto 31, 3) := by decide +kernel
theorem dJ5_setLength_d00df_48 : decode cJ5_setLength_d00df 48 = .ok (.aload_n 0, 1) := by decide +kernel
theorem dJ5_setLength_d00df_49 : decode cJ5_setLength_d00df 49 = .ok (.getfield 15, 3) := by decide +kernel
theorem dJ5_setLength_d00df_52 : decode cJ5_setLength_d00df 52 = .ok (.aload_n 0, 1) := by decide +kernel
theorem dJ5_setLength_d00df_53 : decode cJ5_setLength_d00df 53 = .ok (.getfield 79, 3) := by decide +kernel
theorem dJ5_setLength_d00df_56 : decode cJ5_setLength_d00df 56 = .ok (.iload_n 1, 1) := by decide +kernel
theorem dJ5_setLength_d00df_57 : decode cJ5_setLength_d00df 57 = .ok (.invokestatic 137, 3) := by decide +kernel
theorem dJ5_setLength_d00df_60 : decode cJ5_setLength_d00df 60 = .ok (.goto 16, 3) := by decide +kernel
theorem dJ5_setLength_d00df_63 : decode cJ5_setLength_d00df 63 = .ok (.aload_n 0, 1) := by decide +kernel
theorem dJ5_setLength_d00df_64 : decode cJ5_setLength_d00df 64 = .ok (.getfield 79, 3) := by decide +kernel
theorem dJ5_setLength_d00df_67 : decode cJ5_setLength_d00df 67 = .ok (.iload_n 1, 1) := by decide +kernel
theorem dJ5_setLength_d00df_68 : decode cJ5_setLength_d00df 68 = .ok (.if_icmp .le 8, 3) := by decide +kernel
theorem dJ5_setLength_d00df_71 : decode cJ5_setLength_d00df 71 = .ok (.aload_n 0, 1) := by decide +kernel
theorem dJ5_setLength_d00df_72 : decode cJ5_setLength_d00df 72 = .ok (.iconst 1, 1) := by decide +kernel
theorem dJ5_setLength_d00df_73 : decode cJ5_setLength_d00df 73 = .ok (.putfield 73, 3) := by decide +kernel
theorem dJ5_setLength_d00df_76 : decode cJ5_setLength_d00df 76 = .ok (.aload_n 0, 1) := by decide +kernel
theorem dJ5_setLength_d00df_77 : decode cJ5_setLength_d00df 77 = .ok (.iload_n 1, 1) := by decide +kernel
theorem dJ5_setLength_d00df_78 : decode cJ5_setLength_d00df 78 = .ok (.putfield 79, 3) := by decide +kernel
theorem dJ5_setLength_d00df_81 : decode cJ5_setLength_d00df 81 = .ok (.return_, 1) := by decide +kernel
theorem dJ5_append_cf1ce_0 : decode cJ5_append_cf1ce 0 = .ok (.aload_n 1, 1) := by decide +kernel
theorem dJ5_append_cf1ce_1 : decode cJ5_append_cf1ce 1 = .ok (.ifnonnull 8, 3) := by decide +kernel
theorem dJ5_append_cf1ce_4 : decode cJ5_append_cf1ce 4 = .ok (.aload_n 0, 1) := by decide +kernel
theorem dJ5_append_cf1ce_5 : decode cJ5_append_cf1ce 5 = .ok (.invokevirtual 204, 3) := by decide +kernel
theorem dJ5_append_cf1ce_8 : decode cJ5_append_cf1ce 8 = .ok (.areturn, 1) := by decide +kernel
theorem dJ5_append_cf1ce_9 : decode cJ5_append_cf1ce 9 = .ok (.aload_n 1, 1) := by decide +kernel
theorem dJ5_append_cf1ce_10 : decode cJ5_append_cf1ce 10 = .ok (.invokevirtual 32, 3) := by decide +kernel
theorem dJ5_append_cf1ce_13 : decode cJ5_append_cf1ce 13 = .ok (.istore_n 2, 1) := by decide +kernel
theorem dJ5_append_cf1ce_14 : decode cJ5_append_cf1ce 14 = .ok (.aload_n 0, 1) := by decide +kernel
theorem dJ5_append_cf1ce_15 : decode cJ5_append_cf1ce 15 = .ok (.aload_n 0, 1) := by decide +kernel
theorem dJ5_append_cf1ce_16 : decode cJ5_append_cf1ce 16 = .ok (.getfield 79, 3) := by decide +kernel
theorem dJ5_append_cf1ce_19 : decode cJ5_append_cf1ce 19 = .ok (.iload_n 2, 1) := by decide +kernel
theorem dJ5_append_cf1ce_20 : decode cJ5_append_cf1ce 20 = .ok (.iadd, 1) := by decide +kernel
theorem dJ5_append_cf1ce_21 : decode cJ5_append_cf1ce 21 = .ok (.invokevirtual 100, 3) := by decide +kernel
theorem dJ5_append_cf1ce_24 : decode cJ5_append_cf1ce 24 = .ok (.aload_n 0, 1) := by decide +kernel
theorem dJ5_append_cf1ce_25 : decode cJ5_append_cf1ce 25 = .ok (.aload_n 0, 1) := by decide +kernel
theorem dJ5_append_cf1ce_26 : decode cJ5_append_cf1ce 26 = .ok (.getfield 79, 3) := by decide +kernel
theorem dJ5_append_cf1ce_29 : decode cJ5_append_cf1ce 29 = .ok (.aload_n 1, 1) := by decide +kernel
theorem dJ5_append_cf1ce_30 : decode cJ5_append_cf1ce 30 = .ok (.invokevirtual 208, 3) := by decide +kernel
theorem dJ5_append_cf1ce_33 : decode cJ5_append_cf1ce 33 = .ok (.aload_n 0, 1) := by decide +kernel
theorem dJ5_append_cf1ce_34 : decode cJ5_append_cf1ce 34 = .ok (.dup, 1) := by decide +kernel
theorem dJ5_append_cf1ce_35 : decode cJ5_append_cf1ce 35 = .ok (.getfield 79, 3) := by decide +kernel
theorem dJ5_append_cf1ce_38 : decode cJ5_append_cf1ce 38 = .ok (.iload_n 2, 1) := by decide +kernel
theorem dJ5_append_cf1ce_39 : decode cJ5_append_cf1ce 39 = .ok (.iadd, 1) := by decide +kernel
theorem dJ5_append_cf1ce_40 : decode cJ5_append_cf1ce 40 = .ok (.putfield 79, 3) := by decide +kernel
theorem dJ5_append_cf1ce_43 : decode cJ5_append_cf1ce 43 = .ok (.aload_n 0, 1) := by decide +kernel
theorem dJ5_append_cf1ce_44 : decode cJ5_append_cf1ce 44 = .ok (.areturn, 1) := by decide +kernel
theorem dJ5_appendNull_278bc_0 : decode cJ5_appendNull_278bc 0 = .ok (.aload_n 0, 1) := by decide +kernel
theorem dJ5_appendNull_278bc_1 : decode cJ5_appendNull_278bc 1 = .ok (.aload_n 0, 1) := by decide +kernel
theorem dJ5_appendNull_278bc_2 : decode cJ5_appendNull_278bc 2 = .ok (.getfield 79, 3) := by decide +kernel
theorem dJ5_appendNull_278bc_5 : decode cJ5_appendNull_278bc 5 = .ok (.iconst 4, 1) := by decide +kernel
theorem dJ5_appendNull_278bc_6 : decode cJ5_appendNull_278bc 6 = .ok (.iadd, 1) := by decide +kernel
theorem dJ5_appendNull_278bc_7 : decode cJ5_appendNull_278bc 7 = .ok (.invokevirtual 100, 3) := by decide +kernel
theorem dJ5_appendNull_278bc_10 : decode cJ5_appendNull_278bc 10 = .ok (.aload_n 0, 1) := by decide +kernel
theorem dJ5_appendNull_278bc_11 : decode cJ5_appendNull_278bc 11 = .ok (.getfield 79, 3) := by decide +kernel
theorem dJ5_appendNull_278bc_14 : decode cJ5_appendNull_278bc 14 = .ok (.istore_n 1, 1) := by decide +kernel
theorem dJ5_appendNull_278bc_15 : decode cJ5_appendNull_278bc 15 = .ok (.aload_n 0, 1) := by decide +kernel
theorem dJ5_appendNull_278bc_16 : decode cJ5_appendNull_278bc 16 = .ok (.getfield 15, 3) := by decide +kernel
theorem dJ5_appendNull_278bc_19 : decode cJ5_appendNull_278bc 19 = .ok (.astore_n 2, 1) := by decide +kernel
theorem dJ5_appendNull_278bc_20 : decode cJ5_appendNull_278bc 20 = .ok (.aload_n 0, 1) := by decide +kernel
theorem dJ5_appendNull_278bc_21 : decode cJ5_appendNull_278bc 21 = .ok (.invokevirtual 83, 3) := by decide +kernel
theorem dJ5_appendNull_278bc_24 : decode cJ5_appendNull_278bc 24 = .ok (.ifCond .eq 38, 3) := by decide +kernel
theorem dJ5_appendNull_278bc_27 : decode cJ5_appendNull_278bc 27 = .ok (.aload_n 2, 1) := by decide +kernel
theorem dJ5_appendNull_278bc_28 : decode cJ5_appendNull_278bc 28 = .ok (.iload_n 1, 1) := by decide +kernel
theorem dJ5_appendNull_278bc_29 : decode cJ5_appendNull_278bc 29 = .ok (.iinc 1 1, 3) := by decide +kernel
theorem dJ5_appendNull_278bc_32 : decode cJ5_appendNull_278bc 32 = .ok (.bipush 110, 2) := by decide +kernel
theorem dJ5_appendNull_278bc_34 : decode cJ5_appendNull_278bc 34 = .ok (.bastore, 1) := by decide +kernel
theorem dJ5_appendNull_278bc_35 : decode cJ5_appendNull_278bc 35 = .ok (.aload_n 2, 1) := by decide +kernel
theorem dJ5_appendNull_278bc_36 : decode cJ5_appendNull_278bc 36 = .ok (.iload_n 1, 1) := by decide +kernel
theorem dJ5_appendNull_278bc_37 : decode cJ5_appendNull_278bc 37 = .ok (.iinc 1 1, 3) := by decide +kernel
theorem dJ5_appendNull_278bc_40 : decode cJ5_appendNull_278bc 40 = .ok (.bipush 117, 2) := by decide +kernel
theorem dJ5_appendNull_278bc_42 : decode cJ5_appendNull_278bc 42 = .ok (.bastore, 1) := by decide +kernel
theorem dJ5_appendNull_278bc_43 : decode cJ5_appendNull_278bc 43 = .ok (.aload_n 2, 1) := by decide +kernel
theorem dJ5_appendNull_278bc_44 : decode cJ5_appendNull_278bc 44 = .ok (.iload_n 1, 1) := by decide +kernel
theorem dJ5_appendNull_278bc_45 : decode cJ5_appendNull_278bc 45 = .ok (.iinc 1 1, 3) := by decide +kernel
theorem dJ5_appendNull_278bc_48 : decode cJ5_appendNull_278bc 48 = .ok (.bipush 108, 2) := by decide +kernel
theorem dJ5_appendNull_278bc_50 : decode cJ5_appendNull_278bc 50 = .ok (.bastore, 1) := by decide +kernel
theorem dJ5_appendNull_278bc_51 : decode cJ5_appendNull_278bc 51 = .ok (.aload_n 2, 1) := by decide +kernel
theorem dJ5_appendNull_278bc_52 : decode cJ5_appendNull_278bc 52 = .ok (.iload_n 1, 1) := by decide +kernel
theorem dJ5_appendNull_278bc_53 : decode cJ5_appendNull_278bc 53 = .ok (.iinc 1 1, 3) := by decide +kernel
theorem dJ5_appendNull_278bc_56 : decode cJ5_appendNull_278bc 56 = .ok (.bipush 108, 2) := by decide +kernel
theorem dJ5_appendNull_278bc_58 : decode cJ5_appendNull_278bc 58 = .ok (.bastore, 1) := by decide +kernel
theorem dJ5_appendNull_278bc_59 : decode cJ5_appendNull_278bc 59 = .ok (.goto 17, 3) := by decide +kernel
theorem dJ5_appendNull_278bc_62 : decode cJ5_appendNull_278bc 62 = .ok (.aload_n 2, 1) := by decide +kernel
theorem dJ5_appendNull_278bc_63 : decode cJ5_appendNull_278bc 63 = .ok (.iload_n 1, 1) := by decide +kernel
theorem dJ5_appendNull_278bc_64 : decode cJ5_appendNull_278bc 64 = .ok (.bipush 110, 2) := by decide +kernel
theorem dJ5_appendNull_278bc_66 : decode cJ5_appendNull_278bc 66 = .ok (.bipush 117, 2) := by decide +kernel
theorem dJ5_appendNull_278bc_68 : decode cJ5_appendNull_278bc 68 = .ok (.bipush 108, 2) := by decide +kernel
theorem dJ5_appendNull_278bc_70 : decode cJ5_appendNull_278bc 70 = .ok (.bipush 108, 2) := by decide +kernel
theorem dJ5_appendNull_278bc_72 : decode cJ5_appendNull_278bc 72 = .ok (.invokestatic 226, 3) := by decide +kernel
theorem dJ5_appendNull_278bc_75 : decode cJ5_appendNull_278bc 75 = .ok (.istore_n 1, 1) := by decide +kernel
theorem dJ5_appendNull_278bc_76 : decode cJ5_appendNull_278bc 76 = .ok (.aload_n 0, 1) := by decide +kernel
theorem dJ5_appendNull_278bc_77 : decode cJ5_appendNull_278bc 77 = .ok (.iload_n 1, 1) := by decide +kernel
theorem dJ5_appendNull_278bc_78 : decode cJ5_appendNull_278bc 78 = .ok (.putfield 79, 3) := by decide +kernel
theorem dJ5_appendNull_278bc_81 : decode cJ5_appendNull_278bc 81 = .ok (.aload_n 0, 1) := by decide +kernel
theorem dJ5_appendNull_278bc_82 : decode cJ5_appendNull_278bc 82 = .ok (.areturn, 1) := by decide +kernel
theorem dJ5_append_3fe6f_0 : decode cJ5_append_3fe6f 0 = .ok (.aload_n 0, 1) := by decide +kernel
theorem dJ5_append_3fe6f_1 : decode cJ5_append_3fe6f 1 = .ok (.aload_n 0, 1) := by decide +kernel
theorem dJ5_append_3fe6f_2 : decode cJ5_append_3fe6f 2 = .ok (.getfield 79, 3) := by decide +kernel
theorem dJ5_append_3fe6f_5 : decode cJ5_append_3fe6f 5 = .ok (.iconst 1, 1) := by decide +kernel
theorem dJ5_append_3fe6f_6 : decode cJ5_append_3fe6f 6 = .ok (.iadd, 1) := by decide +kernel
theorem dJ5_append_3fe6f_7 : decode cJ5_append_3fe6f 7 = .ok (.invokevirtual 100, 3) := by decide +kernel
theorem dJ5_append_3fe6f_10 : decode cJ5_append_3fe6f 10 = .ok (.aload_n 0, 1) := by decide +kernel
theorem dJ5_append_3fe6f_11 : decode cJ5_append_3fe6f 11 = .ok (.invokevirtual 83, 3) := by decide +kernel
theorem dJ5_append_3fe6f_14 : decode cJ5_append_3fe6f 14 = .ok (.ifCond .eq 31, 3) := by decide +kernel
theorem dJ5_append_3fe6f_17 : decode cJ5_append_3fe6f 17 = .ok (.iload_n 1, 1) := by decide +kernel
theorem dJ5_append_3fe6f_18 : decode cJ5_append_3fe6f 18 = .ok (.invokestatic 191, 3) := by decide +kernel
theorem dJ5_append_3fe6f_21 : decode cJ5_append_3fe6f 21 = .ok (.ifCond .eq 24, 3) := by decide +kernel
theorem dJ5_append_3fe6f_24 : decode cJ5_append_3fe6f 24 = .ok (.aload_n 0, 1) := by decide +kernel
theorem dJ5_append_3fe6f_25 : decode cJ5_append_3fe6f 25 = .ok (.getfield 15, 3) := by decide +kernel
theorem dJ5_append_3fe6f_28 : decode cJ5_append_3fe6f 28 = .ok (.aload_n 0, 1) := by decide +kernel
theorem dJ5_append_3fe6f_29 : decode cJ5_append_3fe6f 29 = .ok (.dup, 1) := by decide +kernel
theorem dJ5_append_3fe6f_30 : decode cJ5_append_3fe6f 30 = .ok (.getfield 79, 3) := by decide +kernel
theorem dJ5_append_3fe6f_33 : decode cJ5_append_3fe6f 33 = .ok (.dup_x1, 1) := by decide +kernel
theorem dJ5_append_3fe6f_34 : decode cJ5_append_3fe6f 34 = .ok (.iconst 1, 1) := by decide +kernel
theorem dJ5_append_3fe6f_35 : decode cJ5_append_3fe6f 35 = .ok (.iadd, 1) := by decide +kernel
theorem dJ5_append_3fe6f_36 : decode cJ5_append_3fe6f 36 = .ok (.putfield 79, 3) := by decide +kernel
theorem dJ5_append_3fe6f_39 : decode cJ5_append_3fe6f 39 = .ok (.iload_n 1, 1) := by decide +kernel
theorem dJ5_append_3fe6f_40 : decode cJ5_append_3fe6f 40 = .ok (.i2b, 1) := by decide +kernel
theorem dJ5_append_3fe6f_41 : decode cJ5_append_3fe6f 41 = .ok (.bastore, 1) := by decide +kernel
theorem dJ5_append_3fe6f_42 : decode cJ5_append_3fe6f 42 = .ok (.goto 33, 3) := by decide +kernel
theorem dJ5_append_3fe6f_45 : decode cJ5_append_3fe6f 45 = .ok (.aload_n 0, 1) := by decide +kernel
theorem dJ5_append_3fe6f_46 : decode cJ5_append_3fe6f 46 = .ok (.invokevirtual 83, 3) := by decide +kernel
theorem dJ5_append_3fe6f_49 : decode cJ5_append_3fe6f 49 = .ok (.ifCond .eq 7, 3) := by decide +kernel
theorem dJ5_append_3fe6f_52 : decode cJ5_append_3fe6f 52 = .ok (.aload_n 0, 1) := by decide +kernel
theorem dJ5_append_3fe6f_53 : decode cJ5_append_3fe6f 53 = .ok (.invokevirtual 195, 3) := by decide +kernel
theorem dJ5_append_3fe6f_56 : decode cJ5_append_3fe6f 56 = .ok (.aload_n 0, 1) := by decide +kernel
theorem dJ5_append_3fe6f_57 : decode cJ5_append_3fe6f 57 = .ok (.getfield 15, 3) := by decide +kernel
theorem dJ5_append_3fe6f_60 : decode cJ5_append_3fe6f 60 = .ok (.aload_n 0, 1) := by decide +kernel
theorem dJ5_append_3fe6f_61 : decode cJ5_append_3fe6f 61 = .ok (.dup, 1) := by decide +kernel
theorem dJ5_append_3fe6f_62 : decode cJ5_append_3fe6f 62 = .ok (.getfield 79, 3) := by decide +kernel
theorem dJ5_append_3fe6f_65 : decode cJ5_append_3fe6f 65 = .ok (.dup_x1, 1) := by decide +kernel
theorem dJ5_append_3fe6f_66 : decode cJ5_append_3fe6f 66 = .ok (.iconst 1, 1) := by decide +kernel
theorem dJ5_append_3fe6f_67 : decode cJ5_append_3fe6f 67 = .ok (.iadd, 1) := by decide +kernel
theorem dJ5_append_3fe6f_68 : decode cJ5_append_3fe6f 68 = .ok (.putfield 79, 3) := by decide +kernel
theorem dJ5_append_3fe6f_71 : decode cJ5_append_3fe6f 71 = .ok (.iload_n 1, 1) := by decide +kernel
theorem dJ5_append_3fe6f_72 : decode cJ5_append_3fe6f 72 = .ok (.invokestatic 197, 3) := by decide +kernel
theorem dJ5_append_3fe6f_75 : decode cJ5_append_3fe6f 75 = .ok (.aload_n 0, 1) := by decide +kernel
theorem dJ5_append_3fe6f_76 : decode cJ5_append_3fe6f 76 = .ok (.areturn, 1) := by decide +kernel
theorem dJ5_append_c97b9_0 : decode cJ5_append_c97b9 0 = .ok (.aload_n 0, 1) := by decide +kernel
theorem dJ5_append_c97b9_1 : decode cJ5_append_c97b9 1 = .ok (.getfield 79, 3) := by decide +kernel
theorem dJ5_append_c97b9_4 : decode cJ5_append_c97b9 4 = .ok (.istore_n 2, 1) := by decide +kernel
theorem dJ5_append_c97b9_5 : decode cJ5_append_c97b9 5 = .ok (.iload_n 2, 1) := by decide +kernel
theorem dJ5_append_c97b9_6 : decode cJ5_append_c97b9 6 = .ok (.iload_n 1, 1) := by decide +kernel
theorem dJ5_append_c97b9_7 : decode cJ5_append_c97b9 7 = .ok (.invokestatic 245, 3) := by decide +kernel
theorem dJ5_append_c97b9_10 : decode cJ5_append_c97b9 10 = .ok (.iadd, 1) := by decide +kernel
theorem dJ5_append_c97b9_11 : decode cJ5_append_c97b9 11 = .ok (.istore_n 3, 1) := by decide +kernel
theorem dJ5_append_c97b9_12 : decode cJ5_append_c97b9 12 = .ok (.aload_n 0, 1) := by decide +kernel
theorem dJ5_append_c97b9_13 : decode cJ5_append_c97b9 13 = .ok (.iload_n 3, 1) := by decide +kernel
theorem dJ5_append_c97b9_14 : decode cJ5_append_c97b9 14 = .ok (.invokevirtual 100, 3) := by decide +kernel
theorem dJ5_append_c97b9_17 : decode cJ5_append_c97b9 17 = .ok (.aload_n 0, 1) := by decide +kernel
theorem dJ5_append_c97b9_18 : decode cJ5_append_c97b9 18 = .ok (.invokevirtual 83, 3) := by decide +kernel
theorem dJ5_append_c97b9_21 : decode cJ5_append_c97b9 21 = .ok (.ifCond .eq 16, 3) := by decide +kernel
theorem dJ5_append_c97b9_24 : decode cJ5_append_c97b9 24 = .ok (.iload_n 1, 1) := by decide +kernel
theorem dJ5_append_c97b9_25 : decode cJ5_append_c97b9 25 = .ok (.iload_n 3, 1) := by decide +kernel
theorem dJ5_append_c97b9_26 : decode cJ5_append_c97b9 26 = .ok (.aload_n 0, 1) := by decide +kernel
theorem dJ5_append_c97b9_27 : decode cJ5_append_c97b9 27 = .ok (.getfield 15, 3) := by decide +kernel
theorem dJ5_append_c97b9_30 : decode cJ5_append_c97b9 30 = .ok (.invokestatic 248, 3) := by decide +kernel
theorem dJ5_append_c97b9_33 : decode cJ5_append_c97b9 33 = .ok (.pop, 1) := by decide +kernel
theorem dJ5_append_c97b9_34 : decode cJ5_append_c97b9 34 = .ok (.goto 14, 3) := by decide +kernel
theorem dJ5_append_c97b9_37 : decode cJ5_append_c97b9 37 = .ok (.iload_n 1, 1) := by decide +kernel
theorem dJ5_append_c97b9_38 : decode cJ5_append_c97b9 38 = .ok (.iload_n 2, 1) := by decide +kernel
theorem dJ5_append_c97b9_39 : decode cJ5_append_c97b9 39 = .ok (.iload_n 3, 1) := by decide +kernel
theorem dJ5_append_c97b9_40 : decode cJ5_append_c97b9 40 = .ok (.aload_n 0, 1) := by decide +kernel
theorem dJ5_append_c97b9_41 : decode cJ5_append_c97b9 41 = .ok (.getfield 15, 3) := by decide +kernel
theorem dJ5_append_c97b9_44 : decode cJ5_append_c97b9 44 = .ok (.invokestatic 251, 3) := by decide +kernel
theorem dJ5_append_c97b9_47 : decode cJ5_append_c97b9 47 = .ok (.pop, 1) := by decide +kernel
theorem dJ5_append_c97b9_48 : decode cJ5_append_c97b9 48 = .ok (.aload_n 0, 1) := by decide +kernel
theorem dJ5_append_c97b9_49 : decode cJ5_append_c97b9 49 = .ok (.iload_n 3, 1) := by decide +kernel
theorem dJ5_append_c97b9_50 : decode cJ5_append_c97b9 50 = .ok (.putfield 79, 3) := by decide +kernel
theorem dJ5_append_c97b9_53 : decode cJ5_append_c97b9 53 = .ok (.aload_n 0, 1) := by decide +kernel
theorem dJ5_append_c97b9_54 : decode cJ5_append_c97b9 54 = .ok (.areturn, 1) := by decide +kernel
theorem dJ5_getValue_6d5f1_0 : decode cJ5_getValue_6d5f1 0 = .ok (.aload_n 0, 1) := by decide +kernel
theorem dJ5_getValue_6d5f1_1 : decode cJ5_getValue_6d5f1 1 = .ok (.getfield 15, 3) := by decide +kernel
theorem dJ5_getValue_6d5f1_4 : decode cJ5_getValue_6d5f1 4 = .ok (.areturn, 1) := by decide +kernel
theorem dJ5_isLatin1_aae02_0 : decode cJ5_isLatin1_aae02 0 = .ok (.getstatic 18, 3) := by decide +kernel
theorem dJ5_isLatin1_aae02_3 : decode cJ5_isLatin1_aae02 3 = .ok (.ifCond .eq 14, 3) := by decide +kernel
theorem dJ5_isLatin1_aae02_6 : decode cJ5_isLatin1_aae02 6 = .ok (.aload_n 0, 1) := by decide +kernel
theorem dJ5_isLatin1_aae02_7 : decode cJ5_isLatin1_aae02 7 = .ok (.getfield 22, 3) := by decide +kernel
theorem dJ5_isLatin1_aae02_10 : decode cJ5_isLatin1_aae02 10 = .ok (.ifCond .ne 7, 3) := by decide +kernel
theorem dJ5_isLatin1_aae02_13 : decode cJ5_isLatin1_aae02 13 = .ok (.iconst 1, 1) := by decide +kernel
theorem dJ5_isLatin1_aae02_14 : decode cJ5_isLatin1_aae02 14 = .ok (.goto 4, 3) := by decide +kernel
theorem dJ5_isLatin1_aae02_17 : decode cJ5_isLatin1_aae02 17 = .ok (.iconst 0, 1) := by decide +kernel
theorem dJ5_isLatin1_aae02_18 : decode cJ5_isLatin1_aae02 18 = .ok (.ireturn, 1) := by decide +kernel
theorem dJ5_inflateIfNeededFor_a7421_0 : decode cJ5_inflateIfNeededFor_a7421 0 = .ok (.getstatic 18, 3) := by decide +kernel
theorem dJ5_inflateIfNeededFor_a7421_3 : decode cJ5_inflateIfNeededFor_a7421 3 = .ok (.ifCond .eq 18, 3) := by decide +kernel
theorem dJ5_inflateIfNeededFor_a7421_6 : decode cJ5_inflateIfNeededFor_a7421 6 = .ok (.aload_n 0, 1) := by decide +kernel
theorem dJ5_inflateIfNeededFor_a7421_7 : decode cJ5_inflateIfNeededFor_a7421 7 = .ok (.getfield 22, 3) := by decide +kernel
theorem dJ5_inflateIfNeededFor_a7421_10 : decode cJ5_inflateIfNeededFor_a7421 10 = .ok (.aload_n 1, 1) := by decide +kernel
theorem dJ5_inflateIfNeededFor_a7421_11 : decode cJ5_inflateIfNeededFor_a7421 11 = .ok (.invokevirtual 40, 3) := by decide +kernel
theorem dJ5_inflateIfNeededFor_a7421_14 : decode cJ5_inflateIfNeededFor_a7421 14 = .ok (.if_icmp .eq 7, 3) := by decide +kernel
theorem dJ5_inflateIfNeededFor_a7421_17 : decode cJ5_inflateIfNeededFor_a7421 17 = .ok (.aload_n 0, 1) := by decide +kernel
theorem dJ5_inflateIfNeededFor_a7421_18 : decode cJ5_inflateIfNeededFor_a7421 18 = .ok (.invokevirtual 195, 3) := by decide +kernel
theorem dJ5_inflateIfNeededFor_a7421_21 : decode cJ5_inflateIfNeededFor_a7421 21 = .ok (.return_, 1) := by decide +kernel
theorem dJ5_putStringAt_47b60_0 : decode cJ5_putStringAt_47b60 0 = .ok (.aload_n 0, 1) := by decide +kernel
theorem dJ5_putStringAt_47b60_1 : decode cJ5_putStringAt_47b60 1 = .ok (.aload_n 2, 1) := by decide +kernel
theorem dJ5_putStringAt_47b60_2 : decode cJ5_putStringAt_47b60 2 = .ok (.invokevirtual 397, 3) := by decide +kernel
theorem dJ5_putStringAt_47b60_5 : decode cJ5_putStringAt_47b60 5 = .ok (.aload_n 2, 1) := by decide +kernel
theorem dJ5_putStringAt_47b60_6 : decode cJ5_putStringAt_47b60 6 = .ok (.aload_n 0, 1) := by decide +kernel
theorem dJ5_putStringAt_47b60_7 : decode cJ5_putStringAt_47b60 7 = .ok (.getfield 15, 3) := by decide +kernel
theorem dJ5_putStringAt_47b60_10 : decode cJ5_putStringAt_47b60 10 = .ok (.iload_n 1, 1) := by decide +kernel
theorem dJ5_putStringAt_47b60_11 : decode cJ5_putStringAt_47b60 11 = .ok (.aload_n 0, 1) := by decide +kernel
theorem dJ5_putStringAt_47b60_12 : decode cJ5_putStringAt_47b60 12 = .ok (.getfield 22, 3) := by decide +kernel
theorem dJ5_putStringAt_47b60_15 : decode cJ5_putStringAt_47b60 15 = .ok (.invokevirtual 399, 3) := by decide +kernel
theorem dJ5_putStringAt_47b60_18 : decode cJ5_putStringAt_47b60 18 = .ok (.return_, 1) := by decide +kernel
theorem dJx00060_init_d00df_0 : decode cJx00060_init_d00df 0 = .ok (.aload_n 0, 1) := by decide +kernel
theorem dJx00060_init_d00df_1 : decode cJx00060_init_d00df 1 = .ok (.new 10, 3) := by decide +kernel
theorem dJx00060_init_d00df_4 : decode cJx00060_init_d00df 4 = .ok (.dup, 1) := by decide +kernel
theorem dJx00060_init_d00df_5 : decode cJx00060_init_d00df 5 = .ok (.invokespecial 12, 3) := by decide +kernel
theorem dJx00060_init_d00df_8 : decode cJx00060_init_d00df 8 = .ok (.ldc 13, 2) := by decide +kernel
theorem dJx00060_init_d00df_10 : decode cJx00060_init_d00df 10 = .ok (.invokevirtual 15, 3) := by decide +kernel
theorem dJx00060_init_d00df_13 : decode cJx00060_init_d00df 13 = .ok (.iload_n 1, 1) := by decide +kernel
theorem dJx00060_init_d00df_14 : decode cJx00060_init_d00df 14 = .ok (.invokevirtual 19, 3) := by decide +kernel
theorem dJx00060_init_d00df_17 : decode cJx00060_init_d00df 17 = .ok (.invokevirtual 22, 3) := by decide +kernel
theorem dJx00060_init_d00df_20 : decode cJx00060_init_d00df 20 = .ok (.invokespecial 7, 3) := by decide +kernel
theorem dJx00060_init_d00df_23 : decode cJx00060_init_d00df 23 = .ok (.return_, 1) := by decide +kernel
theorem dJ6_getChars_ba4f3_0 : decode cJ6_getChars_ba4f3 0 = .ok (.iload_n 1, 1) := by decide +kernel
theorem dJ6_getChars_ba4f3_1 : decode cJ6_getChars_ba4f3 1 = .ok (.istore 5, 2) := by decide +kernel
theorem dJ6_getChars_ba4f3_3 : decode cJ6_getChars_ba4f3 3 = .ok (.iload_n 0, 1) := by decide +kernel
theorem dJ6_getChars_ba4f3_4 : decode cJ6_getChars_ba4f3 4 = .ok (.ifCond .ge 7, 3) := by decide +kernel
theorem dJ6_getChars_ba4f3_7 : decode cJ6_getChars_ba4f3 7 = .ok (.iconst 1, 1) := by decide +kernel
theorem dJ6_getChars_ba4f3_8 : decode cJ6_getChars_ba4f3 8 = .ok (.goto 4, 3) := by decide +kernel
theorem dJ6_getChars_ba4f3_11 : decode cJ6_getChars_ba4f3 11 = .ok (.iconst 0, 1) := by decide +kernel
theorem dJ6_getChars_ba4f3_12 : decode cJ6_getChars_ba4f3 12 = .ok (.istore 6, 2) := by decide +kernel
theorem dJ6_getChars_ba4f3_14 : decode cJ6_getChars_ba4f3 14 = .ok (.iload 6, 2) := by decide +kernel
theorem dJ6_getChars_ba4f3_16 : decode cJ6_getChars_ba4f3 16 = .ok (.ifCond .ne 6, 3) := by decide +kernel
theorem dJ6_getChars_ba4f3_19 : decode cJ6_getChars_ba4f3 19 = .ok (.iload_n 0, 1) := by decide +kernel
theorem dJ6_getChars_ba4f3_20 : decode cJ6_getChars_ba4f3 20 = .ok (.ineg, 1) := by decide +kernel
theorem dJ6_getChars_ba4f3_21 : decode cJ6_getChars_ba4f3 21 = .ok (.istore_n 0, 1) := by decide +kernel
theorem dJ6_getChars_ba4f3_22 : decode cJ6_getChars_ba4f3 22 = .ok (.iload_n 0, 1) := by decide +kernel
theorem dJ6_getChars_ba4f3_23 : decode cJ6_getChars_ba4f3 23 = .ok (.bipush (-100), 2) := by decide +kernel
theorem dJ6_getChars_ba4f3_25 : decode cJ6_getChars_ba4f3 25 = .ok (.if_icmp .gt 47, 3) := by decide +kernel
theorem dJ6_getChars_ba4f3_28 : decode cJ6_getChars_ba4f3 28 = .ok (.iload_n 0, 1) := by decide +kernel
theorem dJ6_getChars_ba4f3_29 : decode cJ6_getChars_ba4f3 29 = .ok (.bipush 100, 2) := by decide +kernel
theorem dJ6_getChars_ba4f3_31 : decode cJ6_getChars_ba4f3 31 = .ok (.idiv, 1) := by decide +kernel
theorem dJ6_getChars_ba4f3_32 : decode cJ6_getChars_ba4f3 32 = .ok (.istore_n 3, 1) := by decide +kernel
theorem dJ6_getChars_ba4f3_33 : decode cJ6_getChars_ba4f3 33 = .ok (.iload_n 3, 1) := by decide +kernel
theorem dJ6_getChars_ba4f3_34 : decode cJ6_getChars_ba4f3 34 = .ok (.bipush 100, 2) := by decide +kernel
theorem dJ6_getChars_ba4f3_36 : decode cJ6_getChars_ba4f3 36 = .ok (.imul, 1) := by decide +kernel
theorem dJ6_getChars_ba4f3_37 : decode cJ6_getChars_ba4f3 37 = .ok (.iload_n 0, 1) := by decide +kernel
theorem dJ6_getChars_ba4f3_38 : decode cJ6_getChars_ba4f3 38 = .ok (.isub, 1) := by decide +kernel
theorem dJ6_getChars_ba4f3_39 : decode cJ6_getChars_ba4f3 39 = .ok (.istore 4, 2) := by decide +kernel
theorem dJ6_getChars_ba4f3_41 : decode cJ6_getChars_ba4f3 41 = .ok (.iload_n 3, 1) := by decide +kernel
theorem dJ6_getChars_ba4f3_42 : decode cJ6_getChars_ba4f3 42 = .ok (.istore_n 0, 1) := by decide +kernel
theorem dJ6_getChars_ba4f3_43 : decode cJ6_getChars_ba4f3 43 = .ok (.aload_n 2, 1) := by decide +kernel
theorem dJ6_getChars_ba4f3_44 : decode cJ6_getChars_ba4f3 44 = .ok (.iinc 5 (-1), 3) := by decide +kernel
theorem dJ6_getChars_ba4f3_47 : decode cJ6_getChars_ba4f3 47 = .ok (.iload 5, 2) := by decide +kernel
theorem dJ6_getChars_ba4f3_49 : decode cJ6_getChars_ba4f3 49 = .ok (.getstatic 83, 3) := by decide +kernel
theorem dJ6_getChars_ba4f3_52 : decode cJ6_getChars_ba4f3 52 = .ok (.iload 4, 2) := by decide +kernel
theorem dJ6_getChars_ba4f3_54 : decode cJ6_getChars_ba4f3 54 = .ok (.baload, 1) := by decide +kernel
theorem dJ6_getChars_ba4f3_55 : decode cJ6_getChars_ba4f3 55 = .ok (.bastore, 1) := by decide +kernel
theorem dJ6_getChars_ba4f3_56 : decode cJ6_getChars_ba4f3 56 = .ok (.aload_n 2, 1) := by decide +kernel
theorem dJ6_getChars_ba4f3_57 : decode cJ6_getChars_ba4f3 57 = .ok (.iinc 5 (-1), 3) := by decide +kernel
theorem dJ6_getChars_ba4f3_60 : decode cJ6_getChars_ba4f3 60 = .ok (.iload 5, 2) := by decide +kernel
theorem dJ6_getChars_ba4f3_62 : decode cJ6_getChars_ba4f3 62 = .ok (.getstatic 87, 3) := by decide +kernel
theorem dJ6_getChars_ba4f3_65 : decode cJ6_getChars_ba4f3 65 = .ok (.iload 4, 2) := by decide +kernel
theorem dJ6_getChars_ba4f3_67 : decode cJ6_getChars_ba4f3 67 = .ok (.baload, 1) := by decide +kernel
theorem dJ6_getChars_ba4f3_68 : decode cJ6_getChars_ba4f3 68 = .ok (.bastore, 1) := by decide +kernel
theorem dJ6_getChars_ba4f3_69 : decode cJ6_getChars_ba4f3 69 = .ok (.goto (-47), 3) := by decide +kernel
theorem dJ6_getChars_ba4f3_72 : decode cJ6_getChars_ba4f3 72 = .ok (.aload_n 2, 1) := by decide +kernel
theorem dJ6_getChars_ba4f3_73 : decode cJ6_getChars_ba4f3 73 = .ok (.iinc 5 (-1), 3) := by decide +kernel
theorem dJ6_getChars_ba4f3_76 : decode cJ6_getChars_ba4f3 76 = .ok (.iload 5, 2) := by decide +kernel
theorem dJ6_getChars_ba4f3_78 : decode cJ6_getChars_ba4f3 78 = .ok (.getstatic 83, 3) := by decide +kernel
theorem dJ6_getChars_ba4f3_81 : decode cJ6_getChars_ba4f3 81 = .ok (.iload_n 0, 1) := by decide +kernel
theorem dJ6_getChars_ba4f3_82 : decode cJ6_getChars_ba4f3 82 = .ok (.ineg, 1) := by decide +kernel
theorem dJ6_getChars_ba4f3_83 : decode cJ6_getChars_ba4f3 83 = .ok (.baload, 1) := by decide +kernel
theorem dJ6_getChars_ba4f3_84 : decode cJ6_getChars_ba4f3 84 = .ok (.bastore, 1) := by decide +kernel
theorem dJ6_getChars_ba4f3_85 : decode cJ6_getChars_ba4f3 85 = .ok (.iload_n 0, 1) := by decide +kernel
theorem dJ6_getChars_ba4f3_86 : decode cJ6_getChars_ba4f3 86 = .ok (.bipush (-9), 2) := by decide +kernel
theorem dJ6_getChars_ba4f3_88 : decode cJ6_getChars_ba4f3 88 = .ok (.if_icmp .ge 16, 3) := by decide +kernel
theorem dJ6_getChars_ba4f3_91 : decode cJ6_getChars_ba4f3 91 = .ok (.aload_n 2, 1) := by decide +kernel
theorem dJ6_getChars_ba4f3_92 : decode cJ6_getChars_ba4f3 92 = .ok (.iinc 5 (-1), 3) := by decide +kernel
theorem dJ6_getChars_ba4f3_95 : decode cJ6_getChars_ba4f3 95 = .ok (.iload 5, 2) := by decide +kernel
theorem dJ6_getChars_ba4f3_97 : decode cJ6_getChars_ba4f3 97 = .ok (.getstatic 87, 3) := by decide +kernel
theorem dJ6_getChars_ba4f3_100 : decode cJ6_getChars_ba4f3 100 = .ok (.iload_n 0, 1) := by decide +kernel
theorem dJ6_getChars_ba4f3_101 : decode cJ6_getChars_ba4f3 101 = .ok (.ineg, 1) := by decide +kernel
theorem dJ6_getChars_ba4f3_102 : decode cJ6_getChars_ba4f3 102 = .ok (.baload, 1) := by decide +kernel
theorem dJ6_getChars_ba4f3_103 : decode cJ6_getChars_ba4f3 103 = .ok (.bastore, 1) := by decide +kernel
theorem dJ6_getChars_ba4f3_104 : decode cJ6_getChars_ba4f3 104 = .ok (.iload 6, 2) := by decide +kernel
theorem dJ6_getChars_ba4f3_106 : decode cJ6_getChars_ba4f3 106 = .ok (.ifCond .eq 12, 3) := by decide +kernel
theorem dJ6_getChars_ba4f3_109 : decode cJ6_getChars_ba4f3 109 = .ok (.aload_n 2, 1) := by decide +kernel
theorem dJ6_getChars_ba4f3_110 : decode cJ6_getChars_ba4f3 110 = .ok (.iinc 5 (-1), 3) := by decide +kernel
theorem dJ6_getChars_ba4f3_113 : decode cJ6_getChars_ba4f3 113 = .ok (.iload 5, 2) := by decide +kernel
theorem dJ6_getChars_ba4f3_115 : decode cJ6_getChars_ba4f3 115 = .ok (.bipush 45, 2) := by decide +kernel
theorem dJ6_getChars_ba4f3_117 : decode cJ6_getChars_ba4f3 117 = .ok (.bastore, 1) := by decide +kernel
theorem dJ6_getChars_ba4f3_118 : decode cJ6_getChars_ba4f3 118 = .ok (.iload 5, 2) := by decide +kernel
theorem dJ6_getChars_ba4f3_120 : decode cJ6_getChars_ba4f3 120 = .ok (.ireturn, 1) := by decide +kernel
theorem dJ6_stringSize_0f7a4_0 : decode cJ6_stringSize_0f7a4 0 = .ok (.iconst 1, 1) := by decide +kernel
theorem dJ6_stringSize_0f7a4_1 : decode cJ6_stringSize_0f7a4 1 = .ok (.istore_n 1, 1) := by decide +kernel
theorem dJ6_stringSize_0f7a4_2 : decode cJ6_stringSize_0f7a4 2 = .ok (.iload_n 0, 1) := by decide +kernel
theorem dJ6_stringSize_0f7a4_3 : decode cJ6_stringSize_0f7a4 3 = .ok (.ifCond .lt 8, 3) := by decide +kernel
theorem dJ6_stringSize_0f7a4_6 : decode cJ6_stringSize_0f7a4 6 = .ok (.iconst 0, 1) := by decide +kernel
theorem dJ6_stringSize_0f7a4_7 : decode cJ6_stringSize_0f7a4 7 = .ok (.istore_n 1, 1) := by decide +kernel
theorem dJ6_stringSize_0f7a4_8 : decode cJ6_stringSize_0f7a4 8 = .ok (.iload_n 0, 1) := by decide +kernel
theorem dJ6_stringSize_0f7a4_9 : decode cJ6_stringSize_0f7a4 9 = .ok (.ineg, 1) := by decide +kernel
theorem dJ6_stringSize_0f7a4_10 : decode cJ6_stringSize_0f7a4 10 = .ok (.istore_n 0, 1) := by decide +kernel
theorem dJ6_stringSize_0f7a4_11 : decode cJ6_stringSize_0f7a4 11 = .ok (.bipush (-10), 2) := by decide +kernel
theorem dJ6_stringSize_0f7a4_13 : decode cJ6_stringSize_0f7a4 13 = .ok (.istore_n 2, 1) := by decide +kernel
theorem dJ6_stringSize_0f7a4_14 : decode cJ6_stringSize_0f7a4 14 = .ok (.iconst 1, 1) := by decide +kernel
theorem dJ6_stringSize_0f7a4_15 : decode cJ6_stringSize_0f7a4 15 = .ok (.istore_n 3, 1) := by decide +kernel
theorem dJ6_stringSize_0f7a4_16 : decode cJ6_stringSize_0f7a4 16 = .ok (.iload_n 3, 1) := by decide +kernel
theorem dJ6_stringSize_0f7a4_17 : decode cJ6_stringSize_0f7a4 17 = .ok (.bipush 10, 2) := by decide +kernel
theorem dJ6_stringSize_0f7a4_19 : decode cJ6_stringSize_0f7a4 19 = .ok (.if_icmp .ge 23, 3) := by decide +kernel
theorem dJ6_stringSize_0f7a4_22 : decode cJ6_stringSize_0f7a4 22 = .ok (.iload_n 0, 1) := by decide +kernel
theorem dJ6_stringSize_0f7a4_23 : decode cJ6_stringSize_0f7a4 23 = .ok (.iload_n 2, 1) := by decide +kernel
theorem dJ6_stringSize_0f7a4_24 : decode cJ6_stringSize_0f7a4 24 = .ok (.if_icmp .le 7, 3) := by decide +kernel
theorem dJ6_stringSize_0f7a4_27 : decode cJ6_stringSize_0f7a4 27 = .ok (.iload_n 3, 1) := by decide +kernel
theorem dJ6_stringSize_0f7a4_28 : decode cJ6_stringSize_0f7a4 28 = .ok (.iload_n 1, 1) := by decide +kernel
theorem dJ6_stringSize_0f7a4_29 : decode cJ6_stringSize_0f7a4 29 = .ok (.iadd, 1) := by decide +kernel
theorem dJ6_stringSize_0f7a4_30 : decode cJ6_stringSize_0f7a4 30 = .ok (.ireturn, 1) := by decide +kernel
theorem dJ6_stringSize_0f7a4_31 : decode cJ6_stringSize_0f7a4 31 = .ok (.bipush 10, 2) := by decide +kernel
theorem dJ6_stringSize_0f7a4_33 : decode cJ6_stringSize_0f7a4 33 = .ok (.iload_n 2, 1) := by decide +kernel
theorem dJ6_stringSize_0f7a4_34 : decode cJ6_stringSize_0f7a4 34 = .ok (.imul, 1) := by decide +kernel
theorem dJ6_stringSize_0f7a4_35 : decode cJ6_stringSize_0f7a4 35 = .ok (.istore_n 2, 1) := by decide +kernel
theorem dJ6_stringSize_0f7a4_36 : decode cJ6_stringSize_0f7a4 36 = .ok (.iinc 3 1, 3) := by decide +kernel
theorem dJ6_stringSize_0f7a4_39 : decode cJ6_stringSize_0f7a4 39 = .ok (.goto (-23), 3) := by decide +kernel
theorem dJ6_stringSize_0f7a4_42 : decode cJ6_stringSize_0f7a4 42 = .ok (.bipush 10, 2) := by decide +kernel
theorem dJ6_stringSize_0f7a4_44 : decode cJ6_stringSize_0f7a4 44 = .ok (.iload_n 1, 1) := by decide +kernel
theorem dJ6_stringSize_0f7a4_45 : decode cJ6_stringSize_0f7a4 45 = .ok (.iadd, 1) := by decide +kernel
theorem dJ6_stringSize_0f7a4_46 : decode cJ6_stringSize_0f7a4 46 = .ok (.ireturn, 1) := by decide +kernel
theorem dJ6_bitCount_0f7a4_0 : decode cJ6_bitCount_0f7a4 0 = .ok (.iload_n 0, 1) := by decide +kernel
theorem dJ6_bitCount_0f7a4_1 : decode cJ6_bitCount_0f7a4 1 = .ok (.iload_n 0, 1) := by decide +kernel
theorem dJ6_bitCount_0f7a4_2 : decode cJ6_bitCount_0f7a4 2 = .ok (.iconst 1, 1) := by decide +kernel
theorem dJ6_bitCount_0f7a4_3 : decode cJ6_bitCount_0f7a4 3 = .ok (.iushr, 1) := by decide +kernel
theorem dJ6_bitCount_0f7a4_4 : decode cJ6_bitCount_0f7a4 4 = .ok (.ldc_w 265, 3) := by decide +kernel
theorem dJ6_bitCount_0f7a4_7 : decode cJ6_bitCount_0f7a4 7 = .ok (.iand, 1) := by decide +kernel
theorem dJ6_bitCount_0f7a4_8 : decode cJ6_bitCount_0f7a4 8 = .ok (.isub, 1) := by decide +kernel
theorem dJ6_bitCount_0f7a4_9 : decode cJ6_bitCount_0f7a4 9 = .ok (.istore_n 0, 1) := by decide +kernel
theorem dJ6_bitCount_0f7a4_10 : decode cJ6_bitCount_0f7a4 10 = .ok (.iload_n 0, 1) := by decide +kernel
theorem dJ6_bitCount_0f7a4_11 : decode cJ6_bitCount_0f7a4 11 = .ok (.ldc_w 266, 3) := by decide +kernel
theorem dJ6_bitCount_0f7a4_14 : decode cJ6_bitCount_0f7a4 14 = .ok (.iand, 1) := by decide +kernel
theorem dJ6_bitCount_0f7a4_15 : decode cJ6_bitCount_0f7a4 15 = .ok (.iload_n 0, 1) := by decide +kernel
theorem dJ6_bitCount_0f7a4_16 : decode cJ6_bitCount_0f7a4 16 = .ok (.iconst 2, 1) := by decide +kernel
theorem dJ6_bitCount_0f7a4_17 : decode cJ6_bitCount_0f7a4 17 = .ok (.iushr, 1) := by decide +kernel
theorem dJ6_bitCount_0f7a4_18 : decode cJ6_bitCount_0f7a4 18 = .ok (.ldc_w 266, 3) := by decide +kernel
theorem dJ6_bitCount_0f7a4_21 : decode cJ6_bitCount_0f7a4 21 = .ok (.iand, 1) := by decide +kernel
theorem dJ6_bitCount_0f7a4_22 : decode cJ6_bitCount_0f7a4 22 = .ok (.iadd, 1) := by decide +kernel
theorem dJ6_bitCount_0f7a4_23 : decode cJ6_bitCount_0f7a4 23 = .ok (.istore_n 0, 1) := by decide +kernel
theorem dJ6_bitCount_0f7a4_24 : decode cJ6_bitCount_0f7a4 24 = .ok (.iload_n 0, 1) := by decide +kernel
theorem dJ6_bitCount_0f7a4_25 : decode cJ6_bitCount_0f7a4 25 = .ok (.iload_n 0, 1) := by decide +kernel
theorem dJ6_bitCount_0f7a4_26 : decode cJ6_bitCount_0f7a4 26 = .ok (.iconst 4, 1) := by decide +kernel
theorem dJ6_bitCount_0f7a4_27 : decode cJ6_bitCount_0f7a4 27 = .ok (.iushr, 1) := by decide +kernel
theorem dJ6_bitCount_0f7a4_28 : decode cJ6_bitCount_0f7a4 28 = .ok (.iadd, 1) := by decide +kernel
theorem dJ6_bitCount_0f7a4_29 : decode cJ6_bitCount_0f7a4 29 = .ok (.ldc_w 267, 3) := by decide +kernel
theorem dJ6_bitCount_0f7a4_32 : decode cJ6_bitCount_0f7a4 32 = .ok (.iand, 1) := by decide +kernel
theorem dJ6_bitCount_0f7a4_33 : decode cJ6_bitCount_0f7a4 33 = .ok (.istore_n 0, 1) := by decide +kernel
theorem dJ6_bitCount_0f7a4_34 : decode cJ6_bitCount_0f7a4 34 = .ok (.iload_n 0, 1) := by decide +kernel
theorem dJ6_bitCount_0f7a4_35 : decode cJ6_bitCount_0f7a4 35 = .ok (.iload_n 0, 1) := by decide +kernel
theorem dJ6_bitCount_0f7a4_36 : decode cJ6_bitCount_0f7a4 36 = .ok (.bipush 8, 2) := by decide +kernel
theorem dJ6_bitCount_0f7a4_38 : decode cJ6_bitCount_0f7a4 38 = .ok (.iushr, 1) := by decide +kernel
theorem dJ6_bitCount_0f7a4_39 : decode cJ6_bitCount_0f7a4 39 = .ok (.iadd, 1) := by decide +kernel
theorem dJ6_bitCount_0f7a4_40 : decode cJ6_bitCount_0f7a4 40 = .ok (.istore_n 0, 1) := by decide +kernel
theorem dJ6_bitCount_0f7a4_41 : decode cJ6_bitCount_0f7a4 41 = .ok (.iload_n 0, 1) := by decide +kernel
theorem dJ6_bitCount_0f7a4_42 : decode cJ6_bitCount_0f7a4 42 = .ok (.iload_n 0, 1) := by decide +kernel
theorem dJ6_bitCount_0f7a4_43 : decode cJ6_bitCount_0f7a4 43 = .ok (.bipush 16, 2) := by decide +kernel
theorem dJ6_bitCount_0f7a4_45 : decode cJ6_bitCount_0f7a4 45 = .ok (.iushr, 1) := by decide +kernel
theorem dJ6_bitCount_0f7a4_46 : decode cJ6_bitCount_0f7a4 46 = .ok (.iadd, 1) := by decide +kernel
theorem dJ6_bitCount_0f7a4_47 : decode cJ6_bitCount_0f7a4 47 = .ok (.istore_n 0, 1) := by decide +kernel
theorem dJ6_bitCount_0f7a4_48 : decode cJ6_bitCount_0f7a4 48 = .ok (.iload_n 0, 1) := by decide +kernel
theorem dJ6_bitCount_0f7a4_49 : decode cJ6_bitCount_0f7a4 49 = .ok (.bipush 63, 2) := by decide +kernel
theorem dJ6_bitCount_0f7a4_51 : decode cJ6_bitCount_0f7a4 51 = .ok (.iand, 1) := by decide +kernel
theorem dJ6_bitCount_0f7a4_52 : decode cJ6_bitCount_0f7a4 52 = .ok (.ireturn, 1) := by decide +kernel
theorem dJ9_abs_0f7a4_0 : decode cJ9_abs_0f7a4 0 = .ok (.iload_n 0, 1) := by decide +kernel
theorem dJ9_abs_0f7a4_1 : decode cJ9_abs_0f7a4 1 = .ok (.ifCond .ge 8, 3) := by decide +kernel
theorem dJ9_abs_0f7a4_4 : decode cJ9_abs_0f7a4 4 = .ok (.iload_n 0, 1) := by decide +kernel
theorem dJ9_abs_0f7a4_5 : decode cJ9_abs_0f7a4 5 = .ok (.ineg, 1) := by decide +kernel
theorem dJ9_abs_0f7a4_6 : decode cJ9_abs_0f7a4 6 = .ok (.goto 4, 3) := by decide +kernel
theorem dJ9_abs_0f7a4_9 : decode cJ9_abs_0f7a4 9 = .ok (.iload_n 0, 1) := by decide +kernel
theorem dJ9_abs_0f7a4_10 : decode cJ9_abs_0f7a4 10 = .ok (.ireturn, 1) := by decide +kernel
theorem dJ9_max_7cf53_0 : decode cJ9_max_7cf53 0 = .ok (.iload_n 0, 1) := by decide +kernel
theorem dJ9_max_7cf53_1 : decode cJ9_max_7cf53 1 = .ok (.iload_n 1, 1) := by decide +kernel
theorem dJ9_max_7cf53_2 : decode cJ9_max_7cf53 2 = .ok (.if_icmp .lt 7, 3) := by decide +kernel
theorem dJ9_max_7cf53_5 : decode cJ9_max_7cf53 5 = .ok (.iload_n 0, 1) := by decide +kernel
theorem dJ9_max_7cf53_6 : decode cJ9_max_7cf53 6 = .ok (.goto 4, 3) := by decide +kernel
theorem dJ9_max_7cf53_9 : decode cJ9_max_7cf53 9 = .ok (.iload_n 1, 1) := by decide +kernel
theorem dJ9_max_7cf53_10 : decode cJ9_max_7cf53 10 = .ok (.ireturn, 1) := by decide +kernel
theorem dJ9_min_7cf53_0 : decode cJ9_min_7cf53 0 = .ok (.iload_n 0, 1) := by decide +kernel
theorem dJ9_min_7cf53_1 : decode cJ9_min_7cf53 1 = .ok (.iload_n 1, 1) := by decide +kernel
theorem dJ9_min_7cf53_2 : decode cJ9_min_7cf53 2 = .ok (.if_icmp .gt 7, 3) := by decide +kernel
theorem dJ9_min_7cf53_5 : decode cJ9_min_7cf53 5 = .ok (.iload_n 0, 1) := by decide +kernel
theorem dJ9_min_7cf53_6 : decode cJ9_min_7cf53 6 = .ok (.goto 4, 3) := by decide +kernel
theorem dJ9_min_7cf53_9 : decode cJ9_min_7cf53 9 = .ok (.iload_n 1, 1) := by decide +kernel
theorem dJ9_min_7cf53_10 : decode cJ9_min_7cf53 10 = .ok (.ireturn, 1) := by decide +kernel
theorem dJ0_init_81219_0 : decode cJ0_init_81219 0 = .ok (.aload_n 0, 1) := by decide +kernel
theorem dJ0_init_81219_1 : decode cJ0_init_81219 1 = .ok (.aload_n 1, 1) := by decide +kernel
theorem dJ0_init_81219_2 : decode cJ0_init_81219 2 = .ok (.aconst_null, 1) := by decide +kernel
theorem dJ0_init_81219_3 : decode cJ0_init_81219 3 = .ok (.invokespecial 489, 3) := by decide +kernel
theorem dJ0_init_81219_6 : decode cJ0_init_81219 6 = .ok (.return_, 1) := by decide +kernel
theorem dJ0_length_8abf5_0 : decode cJ0_length_8abf5 0 = .ok (.aload_n 0, 1) := by decide +kernel
theorem dJ0_length_8abf5_1 : decode cJ0_length_8abf5 1 = .ok (.getfield 9, 3) := by decide +kernel
theorem dJ0_length_8abf5_4 : decode cJ0_length_8abf5 4 = .ok (.arraylength, 1) := by decide +kernel
theorem dJ0_length_8abf5_5 : decode cJ0_length_8abf5 5 = .ok (.aload_n 0, 1) := by decide +kernel
theorem dJ0_length_8abf5_6 : decode cJ0_length_8abf5 6 = .ok (.invokevirtual 335, 3) := by decide +kernel
theorem dJ0_length_8abf5_9 : decode cJ0_length_8abf5 9 = .ok (.ishr, 1) := by decide +kernel
theorem dJ0_length_8abf5_10 : decode cJ0_length_8abf5 10 = .ok (.ireturn, 1) := by decide +kernel
theorem dJ0_equals_9ea2d_0 : decode cJ0_equals_9ea2d 0 = .ok (.aload_n 0, 1) := by decide +kernel
theorem dJ0_equals_9ea2d_1 : decode cJ0_equals_9ea2d 1 = .ok (.aload_n 1, 1) := by decide +kernel
theorem dJ0_equals_9ea2d_2 : decode cJ0_equals_9ea2d 2 = .ok (.if_acmp .ne 5, 3) := by decide +kernel
theorem dJ0_equals_9ea2d_5 : decode cJ0_equals_9ea2d 5 = .ok (.iconst 1, 1) := by decide +kernel
theorem dJ0_equals_9ea2d_6 : decode cJ0_equals_9ea2d 6 = .ok (.ireturn, 1) := by decide +kernel
theorem dJ0_equals_9ea2d_7 : decode cJ0_equals_9ea2d 7 = .ok (.aload_n 1, 1) := by decide +kernel
theorem dJ0_equals_9ea2d_8 : decode cJ0_equals_9ea2d 8 = .ok (.instanceof 10, 3) := by decide +kernel
theorem dJ0_equals_9ea2d_11 : decode cJ0_equals_9ea2d 11 = .ok (.ifCond .eq 43, 3) := by decide +kernel
theorem dJ0_equals_9ea2d_14 : decode cJ0_equals_9ea2d 14 = .ok (.aload_n 1, 1) := by decide +kernel
theorem dJ0_equals_9ea2d_15 : decode cJ0_equals_9ea2d 15 = .ok (.checkcast 10, 3) := by decide +kernel
theorem dJ0_equals_9ea2d_18 : decode cJ0_equals_9ea2d 18 = .ok (.astore_n 2, 1) := by decide +kernel
theorem dJ0_equals_9ea2d_19 : decode cJ0_equals_9ea2d 19 = .ok (.getstatic 38, 3) := by decide +kernel
theorem dJ0_equals_9ea2d_22 : decode cJ0_equals_9ea2d 22 = .ok (.ifCond .eq 14, 3) := by decide +kernel
theorem dJ0_equals_9ea2d_25 : decode cJ0_equals_9ea2d 25 = .ok (.aload_n 0, 1) := by decide +kernel
theorem dJ0_equals_9ea2d_26 : decode cJ0_equals_9ea2d 26 = .ok (.getfield 15, 3) := by decide +kernel
theorem dJ0_equals_9ea2d_29 : decode cJ0_equals_9ea2d 29 = .ok (.aload_n 2, 1) := by decide +kernel
theorem dJ0_equals_9ea2d_30 : decode cJ0_equals_9ea2d 30 = .ok (.getfield 15, 3) := by decide +kernel
theorem dJ0_equals_9ea2d_33 : decode cJ0_equals_9ea2d 33 = .ok (.if_icmp .ne 21, 3) := by decide +kernel
theorem dJ0_equals_9ea2d_36 : decode cJ0_equals_9ea2d 36 = .ok (.aload_n 0, 1) := by decide +kernel
theorem dJ0_equals_9ea2d_37 : decode cJ0_equals_9ea2d 37 = .ok (.getfield 9, 3) := by decide +kernel
theorem dJ0_equals_9ea2d_40 : decode cJ0_equals_9ea2d 40 = .ok (.aload_n 2, 1) := by decide +kernel
theorem dJ0_equals_9ea2d_41 : decode cJ0_equals_9ea2d 41 = .ok (.getfield 9, 3) := by decide +kernel
theorem dJ0_equals_9ea2d_44 : decode cJ0_equals_9ea2d 44 = .ok (.invokestatic 541, 3) := by decide +kernel
theorem dJ0_equals_9ea2d_47 : decode cJ0_equals_9ea2d 47 = .ok (.ifCond .eq 7, 3) := by decide +kernel
theorem dJ0_equals_9ea2d_50 : decode cJ0_equals_9ea2d 50 = .ok (.iconst 1, 1) := by decide +kernel
theorem dJ0_equals_9ea2d_51 : decode cJ0_equals_9ea2d 51 = .ok (.goto 4, 3) := by decide +kernel
theorem dJ0_equals_9ea2d_54 : decode cJ0_equals_9ea2d 54 = .ok (.iconst 0, 1) := by decide +kernel
theorem dJ0_equals_9ea2d_55 : decode cJ0_equals_9ea2d 55 = .ok (.ireturn, 1) := by decide +kernel
theorem dJ0_getBytes_840e7_0 : decode cJ0_getBytes_840e7 0 = .ok (.aload_n 0, 1) := by decide +kernel
theorem dJ0_getBytes_840e7_1 : decode cJ0_getBytes_840e7 1 = .ok (.invokevirtual 335, 3) := by decide +kernel
theorem dJ0_getBytes_840e7_4 : decode cJ0_getBytes_840e7 4 = .ok (.iload_n 3, 1) := by decide +kernel
theorem dJ0_getBytes_840e7_5 : decode cJ0_getBytes_840e7 5 = .ok (.if_icmp .ne 23, 3) := by decide +kernel
theorem dJ0_getBytes_840e7_8 : decode cJ0_getBytes_840e7 8 = .ok (.aload_n 0, 1) := by decide +kernel
theorem dJ0_getBytes_840e7_9 : decode cJ0_getBytes_840e7 9 = .ok (.getfield 9, 3) := by decide +kernel
theorem dJ0_getBytes_840e7_12 : decode cJ0_getBytes_840e7 12 = .ok (.iconst 0, 1) := by decide +kernel
theorem dJ0_getBytes_840e7_13 : decode cJ0_getBytes_840e7 13 = .ok (.aload_n 1, 1) := by decide +kernel
theorem dJ0_getBytes_840e7_14 : decode cJ0_getBytes_840e7 14 = .ok (.iload_n 2, 1) := by decide +kernel
theorem dJ0_getBytes_840e7_15 : decode cJ0_getBytes_840e7 15 = .ok (.iload_n 3, 1) := by decide +kernel
theorem dJ0_getBytes_840e7_16 : decode cJ0_getBytes_840e7 16 = .ok (.ishl, 1) := by decide +kernel
theorem dJ0_getBytes_840e7_17 : decode cJ0_getBytes_840e7 17 = .ok (.aload_n 0, 1) := by decide +kernel
theorem dJ0_getBytes_840e7_18 : decode cJ0_getBytes_840e7 18 = .ok (.getfield 9, 3) := by decide +kernel
theorem dJ0_getBytes_840e7_21 : decode cJ0_getBytes_840e7 21 = .ok (.arraylength, 1) := by decide +kernel
theorem dJ0_getBytes_840e7_22 : decode cJ0_getBytes_840e7 22 = .ok (.invokestatic 212, 3) := by decide +kernel
theorem dJ0_getBytes_840e7_25 : decode cJ0_getBytes_840e7 25 = .ok (.goto 18, 3) := by decide +kernel
theorem dJ0_getBytes_840e7_28 : decode cJ0_getBytes_840e7 28 = .ok (.aload_n 0, 1) := by decide +kernel
theorem dJ0_getBytes_840e7_29 : decode cJ0_getBytes_840e7 29 = .ok (.getfield 9, 3) := by decide +kernel
theorem dJ0_getBytes_840e7_32 : decode cJ0_getBytes_840e7 32 = .ok (.iconst 0, 1) := by decide +kernel
theorem dJ0_getBytes_840e7_33 : decode cJ0_getBytes_840e7 33 = .ok (.aload_n 1, 1) := by decide +kernel
theorem dJ0_getBytes_840e7_34 : decode cJ0_getBytes_840e7 34 = .ok (.iload_n 2, 1) := by decide +kernel
theorem dJ0_getBytes_840e7_35 : decode cJ0_getBytes_840e7 35 = .ok (.aload_n 0, 1) := by decide +kernel
theorem dJ0_getBytes_840e7_36 : decode cJ0_getBytes_840e7 36 = .ok (.getfield 9, 3) := by decide +kernel
theorem dJ0_getBytes_840e7_39 : decode cJ0_getBytes_840e7 39 = .ok (.arraylength, 1) := by decide +kernel
theorem dJ0_getBytes_840e7_40 : decode cJ0_getBytes_840e7 40 = .ok (.invokestatic 106, 3) := by decide +kernel
theorem dJ0_getBytes_840e7_43 : decode cJ0_getBytes_840e7 43 = .ok (.return_, 1) := by decide +kernel
theorem dJ0_init_db425_0 : decode cJ0_init_db425 0 = .ok (.aload_n 0, 1) := by decide +kernel
theorem dJ0_init_db425_1 : decode cJ0_init_db425 1 = .ok (.invokespecial 1, 3) := by decide +kernel
theorem dJ0_init_db425_4 : decode cJ0_init_db425 4 = .ok (.aload_n 1, 1) := by decide +kernel
theorem dJ0_init_db425_5 : decode cJ0_init_db425 5 = .ok (.invokevirtual 552, 3) := by decide +kernel
theorem dJ0_init_db425_8 : decode cJ0_init_db425 8 = .ok (.astore_n 3, 1) := by decide +kernel
theorem dJ0_init_db425_9 : decode cJ0_init_db425 9 = .ok (.aload_n 1, 1) := by decide +kernel
theorem dJ0_init_db425_10 : decode cJ0_init_db425 10 = .ok (.invokevirtual 549, 3) := by decide +kernel
theorem dJ0_init_db425_13 : decode cJ0_init_db425 13 = .ok (.istore 4, 2) := by decide +kernel
theorem dJ0_init_db425_15 : decode cJ0_init_db425 15 = .ok (.aload_n 1, 1) := by decide +kernel
theorem dJ0_init_db425_16 : decode cJ0_init_db425 16 = .ok (.invokevirtual 1047, 3) := by decide +kernel
theorem dJ0_init_db425_19 : decode cJ0_init_db425 19 = .ok (.ifCond .eq 22, 3) := by decide +kernel
theorem dJ0_init_db425_22 : decode cJ0_init_db425 22 = .ok (.aload_n 0, 1) := by decide +kernel
theorem dJ0_init_db425_23 : decode cJ0_init_db425 23 = .ok (.iconst 0, 1) := by decide +kernel
theorem dJ0_init_db425_24 : decode cJ0_init_db425 24 = .ok (.putfield 15, 3) := by decide +kernel
theorem dJ0_init_db425_27 : decode cJ0_init_db425 27 = .ok (.aload_n 0, 1) := by decide +kernel
theorem dJ0_init_db425_28 : decode cJ0_init_db425 28 = .ok (.aload_n 3, 1) := by decide +kernel
theorem dJ0_init_db425_29 : decode cJ0_init_db425 29 = .ok (.iconst 0, 1) := by decide +kernel
theorem dJ0_init_db425_30 : decode cJ0_init_db425 30 = .ok (.iload 4, 2) := by decide +kernel
theorem dJ0_init_db425_32 : decode cJ0_init_db425 32 = .ok (.invokestatic 54, 3) := by decide +kernel
theorem dJ0_init_db425_35 : decode cJ0_init_db425 35 = .ok (.putfield 9, 3) := by decide +kernel
theorem dJ0_init_db425_38 : decode cJ0_init_db425 38 = .ok (.goto 59, 3) := by decide +kernel
theorem dJ0_init_db425_41 : decode cJ0_init_db425 41 = .ok (.getstatic 38, 3) := by decide +kernel
theorem dJ0_init_db425_44 : decode cJ0_init_db425 44 = .ok (.ifCond .eq 35, 3) := by decide +kernel
theorem dJ0_init_db425_47 : decode cJ0_init_db425 47 = .ok (.aload_n 1, 1) := by decide +kernel
theorem dJ0_init_db425_48 : decode cJ0_init_db425 48 = .ok (.getfield 1048, 3) := by decide +kernel
theorem dJ0_init_db425_51 : decode cJ0_init_db425 51 = .ok (.ifCond .eq 28, 3) := by decide +kernel
theorem dJ0_init_db425_54 : decode cJ0_init_db425 54 = .ok (.aload_n 0, 1) := by decide +kernel
theorem dJ0_init_db425_55 : decode cJ0_init_db425 55 = .ok (.aload_n 3, 1) := by decide +kernel
theorem dJ0_init_db425_56 : decode cJ0_init_db425 56 = .ok (.iconst 0, 1) := by decide +kernel
theorem dJ0_init_db425_57 : decode cJ0_init_db425 57 = .ok (.iload 4, 2) := by decide +kernel
theorem dJ0_init_db425_59 : decode cJ0_init_db425 59 = .ok (.invokestatic 1051, 3) := by decide +kernel
theorem dJ0_init_db425_62 : decode cJ0_init_db425 62 = .ok (.putfield 9, 3) := by decide +kernel
theorem dJ0_init_db425_65 : decode cJ0_init_db425 65 = .ok (.aload_n 0, 1) := by decide +kernel
theorem dJ0_init_db425_66 : decode cJ0_init_db425 66 = .ok (.aload_n 0, 1) := by decide +kernel
theorem dJ0_init_db425_67 : decode cJ0_init_db425 67 = .ok (.getfield 9, 3) := by decide +kernel
theorem dJ0_init_db425_70 : decode cJ0_init_db425 70 = .ok (.iload 4, 2) := by decide +kernel
theorem dJ0_init_db425_72 : decode cJ0_init_db425 72 = .ok (.invokestatic 47, 3) := by decide +kernel
theorem dJ0_init_db425_75 : decode cJ0_init_db425 75 = .ok (.putfield 15, 3) := by decide +kernel
theorem dJ0_init_db425_78 : decode cJ0_init_db425 78 = .ok (.return_, 1) := by decide +kernel
theorem dJ0_init_db425_79 : decode cJ0_init_db425 79 = .ok (.aload_n 0, 1) := by decide +kernel
theorem dJ0_init_db425_80 : decode cJ0_init_db425 80 = .ok (.iconst 1, 1) := by decide +kernel
theorem dJ0_init_db425_81 : decode cJ0_init_db425 81 = .ok (.putfield 15, 3) := by decide +kernel
theorem dJ0_init_db425_84 : decode cJ0_init_db425 84 = .ok (.aload_n 0, 1) := by decide +kernel
theorem dJ0_init_db425_85 : decode cJ0_init_db425 85 = .ok (.aload_n 3, 1) := by decide +kernel
theorem dJ0_init_db425_86 : decode cJ0_init_db425 86 = .ok (.iconst 0, 1) := by decide +kernel
theorem dJ0_init_db425_87 : decode cJ0_init_db425 87 = .ok (.iload 4, 2) := by decide +kernel
theorem dJ0_init_db425_89 : decode cJ0_init_db425 89 = .ok (.iconst 1, 1) := by decide +kernel
theorem dJ0_init_db425_90 : decode cJ0_init_db425 90 = .ok (.ishl, 1) := by decide +kernel
theorem dJ0_init_db425_91 : decode cJ0_init_db425 91 = .ok (.invokestatic 54, 3) := by decide +kernel
theorem dJ0_init_db425_94 : decode cJ0_init_db425 94 = .ok (.putfield 9, 3) := by decide +kernel
theorem dJ0_init_db425_97 : decode cJ0_init_db425 97 = .ok (.return_, 1) := by decide +kernel
theorem dJ0_coder_7d493_0 : decode cJ0_coder_7d493 0 = .ok (.getstatic 38, 3) := by decide +kernel
theorem dJ0_coder_7d493_3 : decode cJ0_coder_7d493 3 = .ok (.ifCond .eq 10, 3) := by decide +kernel
theorem dJ0_coder_7d493_6 : decode cJ0_coder_7d493 6 = .ok (.aload_n 0, 1) := by decide +kernel
theorem dJ0_coder_7d493_7 : decode cJ0_coder_7d493 7 = .ok (.getfield 15, 3) := by decide +kernel
theorem dJ0_coder_7d493_10 : decode cJ0_coder_7d493 10 = .ok (.goto 4, 3) := by decide +kernel
theorem dJ0_coder_7d493_13 : decode cJ0_coder_7d493 13 = .ok (.iconst 1, 1) := by decide +kernel
theorem dJ0_coder_7d493_14 : decode cJ0_coder_7d493 14 = .ok (.ireturn, 1) := by decide +kernel
theorem dJ0_checkIndex_df160_0 : decode cJ0_checkIndex_df160 0 = .ok (.iload_n 0, 1) := by decide +kernel
theorem dJ0_checkIndex_df160_1 : decode cJ0_checkIndex_df160 1 = .ok (.iload_n 1, 1) := by decide +kernel
theorem dJ0_checkIndex_df160_2 : decode cJ0_checkIndex_df160 2 = .ok (.getstatic 1053, 3) := by decide +kernel
theorem dJ0_checkIndex_df160_5 : decode cJ0_checkIndex_df160 5 = .ok (.invokestatic 1059, 3) := by decide +kernel
theorem dJ0_checkIndex_df160_8 : decode cJ0_checkIndex_df160 8 = .ok (.pop, 1) := by decide +kernel
theorem dJ0_checkIndex_df160_9 : decode cJ0_checkIndex_df160 9 = .ok (.return_, 1) := by decide +kernel
theorem dJ0_checkBoundsOffCount_cabcc_0 : decode cJ0_checkBoundsOffCount_cabcc 0 = .ok (.iload_n 0, 1) := by decide +kernel
theorem dJ0_checkBoundsOffCount_cabcc_1 : decode cJ0_checkBoundsOffCount_cabcc 1 = .ok (.iload_n 1, 1) := by decide +kernel
theorem dJ0_checkBoundsOffCount_cabcc_2 : decode cJ0_checkBoundsOffCount_cabcc 2 = .ok (.iload_n 2, 1) := by decide +kernel
theorem dJ0_checkBoundsOffCount_cabcc_3 : decode cJ0_checkBoundsOffCount_cabcc 3 = .ok (.getstatic 1053, 3) := by decide +kernel
theorem dJ0_checkBoundsOffCount_cabcc_6 : decode cJ0_checkBoundsOffCount_cabcc 6 = .ok (.invokestatic 1065, 3) := by decide +kernel
theorem dJ0_checkBoundsOffCount_cabcc_9 : decode cJ0_checkBoundsOffCount_cabcc 9 = .ok (.ireturn, 1) := by decide +kernel
theorem dJ0_checkBoundsBeginEnd_23922_0 : decode cJ0_checkBoundsBeginEnd_23922 0 = .ok (.iload_n 0, 1) := by decide +kernel
theorem dJ0_checkBoundsBeginEnd_23922_1 : decode cJ0_checkBoundsBeginEnd_23922 1 = .ok (.iload_n 1, 1) := by decide +kernel
theorem dJ0_checkBoundsBeginEnd_23922_2 : decode cJ0_checkBoundsBeginEnd_23922 2 = .ok (.iload_n 2, 1) := by decide +kernel
theorem dJ0_checkBoundsBeginEnd_23922_3 : decode cJ0_checkBoundsBeginEnd_23922 3 = .ok (.getstatic 1053, 3) := by decide +kernel
theorem dJ0_checkBoundsBeginEnd_23922_6 : decode cJ0_checkBoundsBeginEnd_23922 6 = .ok (.invokestatic 1062, 3) := by decide +kernel
theorem dJ0_checkBoundsBeginEnd_23922_9 : decode cJ0_checkBoundsBeginEnd_23922 9 = .ok (.pop, 1) := by decide +kernel
theorem dJ0_checkBoundsBeginEnd_23922_10 : decode cJ0_checkBoundsBeginEnd_23922 10 = .ok (.return_, 1) := by decide +kernel
theorem dJ4_init_da8c8_0 : decode cJ4_init_da8c8 0 = .ok (.aload_n 0, 1) := by decide +kernel
theorem dJ4_init_da8c8_1 : decode cJ4_init_da8c8 1 = .ok (.bipush 16, 2) := by decide +kernel
theorem dJ4_init_da8c8_3 : decode cJ4_init_da8c8 3 = .ok (.invokespecial 1, 3) := by decide +kernel
theorem dJ4_init_da8c8_6 : decode cJ4_init_da8c8 6 = .ok (.return_, 1) := by decide +kernel
theorem dJ4_append_15ec4_0 : decode cJ4_append_15ec4 0 = .ok (.aload_n 0, 1) := by decide +kernel
theorem dJ4_append_15ec4_1 : decode cJ4_append_15ec4 1 = .ok (.aload_n 1, 1) := by decide +kernel
theorem dJ4_append_15ec4_2 : decode cJ4_append_15ec4 2 = .ok (.invokespecial 29, 3) := by decide +kernel
theorem dJ4_append_15ec4_5 : decode cJ4_append_15ec4 5 = .ok (.pop, 1) := by decide +kernel
theorem dJ4_append_15ec4_6 : decode cJ4_append_15ec4 6 = .ok (.aload_n 0, 1) := by decide +kernel
theorem dJ4_append_15ec4_7 : decode cJ4_append_15ec4 7 = .ok (.areturn, 1) := by decide +kernel
theorem dJ4_append_cf468_0 : decode cJ4_append_cf468 0 = .ok (.aload_n 0, 1) := by decide +kernel
theorem dJ4_append_cf468_1 : decode cJ4_append_cf468 1 = .ok (.iload_n 1, 1) := by decide +kernel
theorem dJ4_append_cf468_2 : decode cJ4_append_cf468 2 = .ok (.invokespecial 50, 3) := by decide +kernel
theorem dJ4_append_cf468_5 : decode cJ4_append_cf468 5 = .ok (.pop, 1) := by decide +kernel
theorem dJ4_append_cf468_6 : decode cJ4_append_cf468 6 = .ok (.aload_n 0, 1) := by decide +kernel
theorem dJ4_append_cf468_7 : decode cJ4_append_cf468 7 = .ok (.areturn, 1) := by decide +kernel
theorem dJ4_append_bf812_0 : decode cJ4_append_bf812 0 = .ok (.aload_n 0, 1) := by decide +kernel
theorem dJ4_append_bf812_1 : decode cJ4_append_bf812 1 = .ok (.iload_n 1, 1) := by decide +kernel
theorem dJ4_append_bf812_2 : decode cJ4_append_bf812 2 = .ok (.invokespecial 53, 3) := by decide +kernel
theorem dJ4_append_bf812_5 : decode cJ4_append_bf812 5 = .ok (.pop, 1) := by decide +kernel
theorem dJ4_append_bf812_6 : decode cJ4_append_bf812 6 = .ok (.aload_n 0, 1) := by decide +kernel
theorem dJ4_append_bf812_7 : decode cJ4_append_bf812 7 = .ok (.areturn, 1) := by decide +kernel
theorem dJ4_toString_0e30d_0 : decode cJ4_toString_0e30d 0 = .ok (.new 18, 3) := by decide +kernel
theorem dJ4_toString_0e30d_3 : decode cJ4_toString_0e30d 3 = .ok (.dup, 1) := by decide +kernel
theorem dJ4_toString_0e30d_4 : decode cJ4_toString_0e30d 4 = .ok (.aload_n 0, 1) := by decide +kernel
theorem dJ4_toString_0e30d_5 : decode cJ4_toString_0e30d 5 = .ok (.invokespecial 137, 3) := by decide +kernel
theorem dJ4_toString_0e30d_8 : decode cJ4_toString_0e30d 8 = .ok (.areturn, 1) := by decide +kernel
theorem dJ4_setLength_d00df_0 : decode cJ4_setLength_d00df 0 = .ok (.aload_n 0, 1) := by decide +kernel
theorem dJ4_setLength_d00df_1 : decode cJ4_setLength_d00df 1 = .ok (.iload_n 1, 1) := by decide +kernel
theorem dJ4_setLength_d00df_2 : decode cJ4_setLength_d00df 2 = .ok (.invokespecial 333, 3) := by decide +kernel
theorem dJ4_setLength_d00df_5 : decode cJ4_setLength_d00df 5 = .ok (.return_, 1) := by decide +kernel
theorem dJ4_length_8abf5_0 : decode cJ4_length_8abf5 0 = .ok (.aload_n 0, 1) := by decide +kernel
theorem dJ4_length_8abf5_1 : decode cJ4_length_8abf5 1 = .ok (.invokespecial 343, 3) := by decide +kernel
theorem dJ4_length_8abf5_4 : decode cJ4_length_8abf5 4 = .ok (.ireturn, 1) := by decide +kernel
theorem dJx7c733_init_d00df_0 : decode cJx7c733_init_d00df 0 = .ok (.aload_n 0, 1) := by decide +kernel
theorem dJx7c733_init_d00df_1 : decode cJx7c733_init_d00df 1 = .ok (.new 10, 3) := by decide +kernel
theorem dJx7c733_init_d00df_4 : decode cJx7c733_init_d00df 4 = .ok (.dup, 1) := by decide +kernel
theorem dJx7c733_init_d00df_5 : decode cJx7c733_init_d00df 5 = .ok (.invokespecial 12, 3) := by decide +kernel
theorem dJx7c733_init_d00df_8 : decode cJx7c733_init_d00df 8 = .ok (.ldc 13, 2) := by decide +kernel
theorem dJx7c733_init_d00df_10 : decode cJx7c733_init_d00df 10 = .ok (.invokevirtual 15, 3) := by decide +kernel
theorem dJx7c733_init_d00df_13 : decode cJx7c733_init_d00df 13 = .ok (.iload_n 1, 1) := by decide +kernel
theorem dJx7c733_init_d00df_14 : decode cJx7c733_init_d00df 14 = .ok (.invokevirtual 19, 3) := by decide +kernel
theorem dJx7c733_init_d00df_17 : decode cJx7c733_init_d00df 17 = .ok (.invokevirtual 22, 3) := by decide +kernel
theorem dJx7c733_init_d00df_20 : decode cJx7c733_init_d00df 20 = .ok (.invokespecial 7, 3) := by decide +kernel
theorem dJx7c733_init_d00df_23 : decode cJx7c733_init_d00df 23 = .ok (.return_, 1) := by decide +kernel
theorem dJ1_canEncode_fc78d_0 : decode cJ1_canEncode_fc78d 0 = .ok (.iload_n 0, 1) := by decide +kernel
theorem dJ1_canEncode_fc78d_1 : decode cJ1_canEncode_fc78d 1 = .ok (.sipush 255, 3) := by decide +kernel
theorem dJ1_canEncode_fc78d_4 : decode cJ1_canEncode_fc78d 4 = .ok (.if_icmp .gt 7, 3) := by decide +kernel
theorem dJ1_canEncode_fc78d_7 : decode cJ1_canEncode_fc78d 7 = .ok (.iconst 1, 1) := by decide +kernel
theorem dJ1_canEncode_fc78d_8 : decode cJ1_canEncode_fc78d 8 = .ok (.goto 4, 3) := by decide +kernel
theorem dJ1_canEncode_fc78d_11 : decode cJ1_canEncode_fc78d 11 = .ok (.iconst 0, 1) := by decide +kernel
theorem dJ1_canEncode_fc78d_12 : decode cJ1_canEncode_fc78d 12 = .ok (.ireturn, 1) := by decide +kernel
theorem dJ1_equals_b5fdf_0 : decode cJ1_equals_b5fdf 0 = .ok (.aload_n 0, 1) := by decide +kernel
theorem dJ1_equals_b5fdf_1 : decode cJ1_equals_b5fdf 1 = .ok (.arraylength, 1) := by decide +kernel
theorem dJ1_equals_b5fdf_2 : decode cJ1_equals_b5fdf 2 = .ok (.aload_n 1, 1) := by decide +kernel
theorem dJ1_equals_b5fdf_3 : decode cJ1_equals_b5fdf 3 = .ok (.arraylength, 1) := by decide +kernel
theorem dJ1_equals_b5fdf_4 : decode cJ1_equals_b5fdf 4 = .ok (.if_icmp .ne 30, 3) := by decide +kernel
theorem dJ1_equals_b5fdf_7 : decode cJ1_equals_b5fdf 7 = .ok (.iconst 0, 1) := by decide +kernel
theorem dJ1_equals_b5fdf_8 : decode cJ1_equals_b5fdf 8 = .ok (.istore_n 2, 1) := by decide +kernel
theorem dJ1_equals_b5fdf_9 : decode cJ1_equals_b5fdf 9 = .ok (.iload_n 2, 1) := by decide +kernel
theorem dJ1_equals_b5fdf_10 : decode cJ1_equals_b5fdf 10 = .ok (.aload_n 0, 1) := by decide +kernel
theorem dJ1_equals_b5fdf_11 : decode cJ1_equals_b5fdf 11 = .ok (.arraylength, 1) := by decide +kernel
theorem dJ1_equals_b5fdf_12 : decode cJ1_equals_b5fdf 12 = .ok (.if_icmp .ge 20, 3) := by decide +kernel
theorem dJ1_equals_b5fdf_15 : decode cJ1_equals_b5fdf 15 = .ok (.aload_n 0, 1) := by decide +kernel
theorem dJ1_equals_b5fdf_16 : decode cJ1_equals_b5fdf 16 = .ok (.iload_n 2, 1) := by decide +kernel
theorem dJ1_equals_b5fdf_17 : decode cJ1_equals_b5fdf 17 = .ok (.baload, 1) := by decide +kernel
theorem dJ1_equals_b5fdf_18 : decode cJ1_equals_b5fdf 18 = .ok (.aload_n 1, 1) := by decide +kernel
theorem dJ1_equals_b5fdf_19 : decode cJ1_equals_b5fdf 19 = .ok (.iload_n 2, 1) := by decide +kernel
theorem dJ1_equals_b5fdf_20 : decode cJ1_equals_b5fdf 20 = .ok (.baload, 1) := by decide +kernel
theorem dJ1_equals_b5fdf_21 : decode cJ1_equals_b5fdf 21 = .ok (.if_icmp .eq 5, 3) := by decide +kernel
theorem dJ1_equals_b5fdf_24 : decode cJ1_equals_b5fdf 24 = .ok (.iconst 0, 1) := by decide +kernel
theorem dJ1_equals_b5fdf_25 : decode cJ1_equals_b5fdf 25 = .ok (.ireturn, 1) := by decide +kernel
theorem dJ1_equals_b5fdf_26 : decode cJ1_equals_b5fdf 26 = .ok (.iinc 2 1, 3) := by decide +kernel
theorem dJ1_equals_b5fdf_29 : decode cJ1_equals_b5fdf 29 = .ok (.goto (-20), 3) := by decide +kernel
theorem dJ1_equals_b5fdf_32 : decode cJ1_equals_b5fdf 32 = .ok (.iconst 1, 1) := by decide +kernel
theorem dJ1_equals_b5fdf_33 : decode cJ1_equals_b5fdf 33 = .ok (.ireturn, 1) := by decide +kernel
theorem dJ1_equals_b5fdf_34 : decode cJ1_equals_b5fdf 34 = .ok (.iconst 0, 1) := by decide +kernel
theorem dJ1_equals_b5fdf_35 : decode cJ1_equals_b5fdf 35 = .ok (.ireturn, 1) := by decide +kernel
theorem dJ1_fillNull_b72d1_0 : decode cJ1_fillNull_b72d1 0 = .ok (.aload_n 0, 1) := by decide +kernel
theorem dJ1_fillNull_b72d1_1 : decode cJ1_fillNull_b72d1 1 = .ok (.iload_n 1, 1) := by decide +kernel
theorem dJ1_fillNull_b72d1_2 : decode cJ1_fillNull_b72d1 2 = .ok (.iload_n 2, 1) := by decide +kernel
theorem dJ1_fillNull_b72d1_3 : decode cJ1_fillNull_b72d1 3 = .ok (.iconst 0, 1) := by decide +kernel
theorem dJ1_fillNull_b72d1_4 : decode cJ1_fillNull_b72d1 4 = .ok (.invokestatic 236, 3) := by decide +kernel
theorem dJ1_fillNull_b72d1_7 : decode cJ1_fillNull_b72d1 7 = .ok (.return_, 1) := by decide +kernel
theorem dJ1_inflate_0e8fd_0 : decode cJ1_inflate_0e8fd 0 = .ok (.aload_n 0, 1) := by decide +kernel
theorem dJ1_inflate_0e8fd_1 : decode cJ1_inflate_0e8fd 1 = .ok (.iload_n 1, 1) := by decide +kernel
theorem dJ1_inflate_0e8fd_2 : decode cJ1_inflate_0e8fd 2 = .ok (.aload_n 2, 1) := by decide +kernel
theorem dJ1_inflate_0e8fd_3 : decode cJ1_inflate_0e8fd 3 = .ok (.iload_n 3, 1) := by decide +kernel
theorem dJ1_inflate_0e8fd_4 : decode cJ1_inflate_0e8fd 4 = .ok (.iload 4, 2) := by decide +kernel
theorem dJ1_inflate_0e8fd_6 : decode cJ1_inflate_0e8fd 6 = .ok (.invokestatic 240, 3) := by decide +kernel
theorem dJ1_inflate_0e8fd_9 : decode cJ1_inflate_0e8fd 9 = .ok (.return_, 1) := by decide +kernel
theorem dJ2_newBytesFor_77867_0 : decode cJ2_newBytesFor_77867 0 = .ok (.iload_n 0, 1) := by decide +kernel
theorem dJ2_newBytesFor_77867_1 : decode cJ2_newBytesFor_77867 1 = .ok (.invokestatic 11, 3) := by decide +kernel
theorem dJ2_newBytesFor_77867_4 : decode cJ2_newBytesFor_77867 4 = .ok (.newarray .byte, 2) := by decide +kernel
theorem dJ2_newBytesFor_77867_6 : decode cJ2_newBytesFor_77867 6 = .ok (.areturn, 1) := by decide +kernel
theorem dJ2_newBytesLength_0f7a4_0 : decode cJ2_newBytesLength_0f7a4 0 = .ok (.iload_n 0, 1) := by decide +kernel
theorem dJ2_newBytesLength_0f7a4_1 : decode cJ2_newBytesLength_0f7a4 1 = .ok (.ifCond .ge 11, 3) := by decide +kernel
theorem dJ2_newBytesLength_0f7a4_4 : decode cJ2_newBytesLength_0f7a4 4 = .ok (.new 17, 3) := by decide +kernel
theorem dJ2_newBytesLength_0f7a4_7 : decode cJ2_newBytesLength_0f7a4 7 = .ok (.dup, 1) := by decide +kernel
theorem dJ2_newBytesLength_0f7a4_8 : decode cJ2_newBytesLength_0f7a4 8 = .ok (.invokespecial 19, 3) := by decide +kernel
theorem dJ2_newBytesLength_0f7a4_11 : decode cJ2_newBytesLength_0f7a4 11 = .ok (.athrow, 1) := by decide +kernel
theorem dJ2_newBytesLength_0f7a4_12 : decode cJ2_newBytesLength_0f7a4 12 = .ok (.iload_n 0, 1) := by decide +kernel
theorem dJ2_newBytesLength_0f7a4_13 : decode cJ2_newBytesLength_0f7a4 13 = .ok (.ldc 20, 2) := by decide +kernel
theorem dJ2_newBytesLength_0f7a4_15 : decode cJ2_newBytesLength_0f7a4 15 = .ok (.if_icmp .lt 40, 3) := by decide +kernel
theorem dJ2_newBytesLength_0f7a4_18 : decode cJ2_newBytesLength_0f7a4 18 = .ok (.new 21, 3) := by decide +kernel
theorem dJ2_newBytesLength_0f7a4_21 : decode cJ2_newBytesLength_0f7a4 21 = .ok (.dup, 1) := by decide +kernel
theorem dJ2_newBytesLength_0f7a4_22 : decode cJ2_newBytesLength_0f7a4 22 = .ok (.new 23, 3) := by decide +kernel
theorem dJ2_newBytesLength_0f7a4_25 : decode cJ2_newBytesLength_0f7a4 25 = .ok (.dup, 1) := by decide +kernel
theorem dJ2_newBytesLength_0f7a4_26 : decode cJ2_newBytesLength_0f7a4 26 = .ok (.invokespecial 25, 3) := by decide +kernel
theorem dJ2_newBytesLength_0f7a4_29 : decode cJ2_newBytesLength_0f7a4 29 = .ok (.ldc 26, 2) := by decide +kernel
theorem dJ2_newBytesLength_0f7a4_31 : decode cJ2_newBytesLength_0f7a4 31 = .ok (.invokevirtual 28, 3) := by decide +kernel
theorem dJ2_newBytesLength_0f7a4_34 : decode cJ2_newBytesLength_0f7a4 34 = .ok (.iload_n 0, 1) := by decide +kernel
theorem dJ2_newBytesLength_0f7a4_35 : decode cJ2_newBytesLength_0f7a4 35 = .ok (.invokevirtual 32, 3) := by decide +kernel
theorem dJ2_newBytesLength_0f7a4_38 : decode cJ2_newBytesLength_0f7a4 38 = .ok (.ldc 35, 2) := by decide +kernel
theorem dJ2_newBytesLength_0f7a4_40 : decode cJ2_newBytesLength_0f7a4 40 = .ok (.invokevirtual 28, 3) := by decide +kernel
theorem dJ2_newBytesLength_0f7a4_43 : decode cJ2_newBytesLength_0f7a4 43 = .ok (.ldc 20, 2) := by decide +kernel
theorem dJ2_newBytesLength_0f7a4_45 : decode cJ2_newBytesLength_0f7a4 45 = .ok (.invokevirtual 32, 3) := by decide +kernel
theorem dJ2_newBytesLength_0f7a4_48 : decode cJ2_newBytesLength_0f7a4 48 = .ok (.invokevirtual 37, 3) := by decide +kernel
theorem dJ2_newBytesLength_0f7a4_51 : decode cJ2_newBytesLength_0f7a4 51 = .ok (.invokespecial 41, 3) := by decide +kernel
theorem dJ2_newBytesLength_0f7a4_54 : decode cJ2_newBytesLength_0f7a4 54 = .ok (.athrow, 1) := by decide +kernel
theorem dJ2_newBytesLength_0f7a4_55 : decode cJ2_newBytesLength_0f7a4 55 = .ok (.iload_n 0, 1) := by decide +kernel
theorem dJ2_newBytesLength_0f7a4_56 : decode cJ2_newBytesLength_0f7a4 56 = .ok (.iconst 1, 1) := by decide +kernel
theorem dJ2_newBytesLength_0f7a4_57 : decode cJ2_newBytesLength_0f7a4 57 = .ok (.ishl, 1) := by decide +kernel
theorem dJ2_newBytesLength_0f7a4_58 : decode cJ2_newBytesLength_0f7a4 58 = .ok (.ireturn, 1) := by decide +kernel
theorem dJ2_putChar_b72d1_0 : decode cJ2_putChar_b72d1 0 = .ok (.getstatic 44, 3) := by decide +kernel
theorem dJ2_putChar_b72d1_3 : decode cJ2_putChar_b72d1 3 = .ok (.ifCond .ne 25, 3) := by decide +kernel
theorem dJ2_putChar_b72d1_6 : decode cJ2_putChar_b72d1 6 = .ok (.iload_n 1, 1) := by decide +kernel
theorem dJ2_putChar_b72d1_7 : decode cJ2_putChar_b72d1 7 = .ok (.ifCond .lt 11, 3) := by decide +kernel
theorem dJ2_putChar_b72d1_10 : decode cJ2_putChar_b72d1 10 = .ok (.iload_n 1, 1) := by decide +kernel
theorem dJ2_putChar_b72d1_11 : decode cJ2_putChar_b72d1 11 = .ok (.aload_n 0, 1) := by decide +kernel
theorem dJ2_putChar_b72d1_12 : decode cJ2_putChar_b72d1 12 = .ok (.invokestatic 48, 3) := by decide +kernel
theorem dJ2_putChar_b72d1_15 : decode cJ2_putChar_b72d1 15 = .ok (.if_icmp .lt 13, 3) := by decide +kernel
theorem dJ2_putChar_b72d1_18 : decode cJ2_putChar_b72d1 18 = .ok (.new 52, 3) := by decide +kernel
theorem dJ2_putChar_b72d1_21 : decode cJ2_putChar_b72d1 21 = .ok (.dup, 1) := by decide +kernel
theorem dJ2_putChar_b72d1_22 : decode cJ2_putChar_b72d1 22 = .ok (.ldc 54, 2) := by decide +kernel
theorem dJ2_putChar_b72d1_24 : decode cJ2_putChar_b72d1 24 = .ok (.invokespecial 56, 3) := by decide +kernel
theorem dJ2_putChar_b72d1_27 : decode cJ2_putChar_b72d1 27 = .ok (.athrow, 1) := by decide +kernel
theorem dJ2_putChar_b72d1_28 : decode cJ2_putChar_b72d1 28 = .ok (.iload_n 1, 1) := by decide +kernel
theorem dJ2_putChar_b72d1_29 : decode cJ2_putChar_b72d1 29 = .ok (.iconst 1, 1) := by decide +kernel
theorem dJ2_putChar_b72d1_30 : decode cJ2_putChar_b72d1 30 = .ok (.ishl, 1) := by decide +kernel
theorem dJ2_putChar_b72d1_31 : decode cJ2_putChar_b72d1 31 = .ok (.istore_n 1, 1) := by decide +kernel
theorem dJ2_putChar_b72d1_32 : decode cJ2_putChar_b72d1 32 = .ok (.aload_n 0, 1) := by decide +kernel
theorem dJ2_putChar_b72d1_33 : decode cJ2_putChar_b72d1 33 = .ok (.iload_n 1, 1) := by decide +kernel
theorem dJ2_putChar_b72d1_34 : decode cJ2_putChar_b72d1 34 = .ok (.iinc 1 1, 3) := by decide +kernel
theorem dJ2_putChar_b72d1_37 : decode cJ2_putChar_b72d1 37 = .ok (.iload_n 2, 1) := by decide +kernel
theorem dJ2_putChar_b72d1_38 : decode cJ2_putChar_b72d1 38 = .ok (.getstatic 59, 3) := by decide +kernel
theorem dJ2_putChar_b72d1_41 : decode cJ2_putChar_b72d1 41 = .ok (.ishr, 1) := by decide +kernel
theorem dJ2_putChar_b72d1_42 : decode cJ2_putChar_b72d1 42 = .ok (.i2b, 1) := by decide +kernel
theorem dJ2_putChar_b72d1_43 : decode cJ2_putChar_b72d1 43 = .ok (.bastore, 1) := by decide +kernel
theorem dJ2_putChar_b72d1_44 : decode cJ2_putChar_b72d1 44 = .ok (.aload_n 0, 1) := by decide +kernel
theorem dJ2_putChar_b72d1_45 : decode cJ2_putChar_b72d1 45 = .ok (.iload_n 1, 1) := by decide +kernel
theorem dJ2_putChar_b72d1_46 : decode cJ2_putChar_b72d1 46 = .ok (.iload_n 2, 1) := by decide +kernel
theorem dJ2_putChar_b72d1_47 : decode cJ2_putChar_b72d1 47 = .ok (.getstatic 63, 3) := by decide +kernel
theorem dJ2_putChar_b72d1_50 : decode cJ2_putChar_b72d1 50 = .ok (.ishr, 1) := by decide +kernel
theorem dJ2_putChar_b72d1_51 : decode cJ2_putChar_b72d1 51 = .ok (.i2b, 1) := by decide +kernel
theorem dJ2_putChar_b72d1_52 : decode cJ2_putChar_b72d1 52 = .ok (.bastore, 1) := by decide +kernel
theorem dJ2_putChar_b72d1_53 : decode cJ2_putChar_b72d1 53 = .ok (.return_, 1) := by decide +kernel
theorem dJ2_getChar_3b067_0 : decode cJ2_getChar_3b067 0 = .ok (.getstatic 44, 3) := by decide +kernel
theorem dJ2_getChar_3b067_3 : decode cJ2_getChar_3b067 3 = .ok (.ifCond .ne 25, 3) := by decide +kernel
theorem dJ2_getChar_3b067_6 : decode cJ2_getChar_3b067 6 = .ok (.iload_n 1, 1) := by decide +kernel
theorem dJ2_getChar_3b067_7 : decode cJ2_getChar_3b067 7 = .ok (.ifCond .lt 11, 3) := by decide +kernel
theorem dJ2_getChar_3b067_10 : decode cJ2_getChar_3b067 10 = .ok (.iload_n 1, 1) := by decide +kernel
theorem dJ2_getChar_3b067_11 : decode cJ2_getChar_3b067 11 = .ok (.aload_n 0, 1) := by decide +kernel
theorem dJ2_getChar_3b067_12 : decode cJ2_getChar_3b067 12 = .ok (.invokestatic 48, 3) := by decide +kernel
theorem dJ2_getChar_3b067_15 : decode cJ2_getChar_3b067 15 = .ok (.if_icmp .lt 13, 3) := by decide +kernel
theorem dJ2_getChar_3b067_18 : decode cJ2_getChar_3b067 18 = .ok (.new 52, 3) := by decide +kernel
theorem dJ2_getChar_3b067_21 : decode cJ2_getChar_3b067 21 = .ok (.dup, 1) := by decide +kernel
theorem dJ2_getChar_3b067_22 : decode cJ2_getChar_3b067 22 = .ok (.ldc 54, 2) := by decide +kernel
theorem dJ2_getChar_3b067_24 : decode cJ2_getChar_3b067 24 = .ok (.invokespecial 56, 3) := by decide +kernel
theorem dJ2_getChar_3b067_27 : decode cJ2_getChar_3b067 27 = .ok (.athrow, 1) := by decide +kernel
theorem dJ2_getChar_3b067_28 : decode cJ2_getChar_3b067 28 = .ok (.iload_n 1, 1) := by decide +kernel
theorem dJ2_getChar_3b067_29 : decode cJ2_getChar_3b067 29 = .ok (.iconst 1, 1) := by decide +kernel
theorem dJ2_getChar_3b067_30 : decode cJ2_getChar_3b067 30 = .ok (.ishl, 1) := by decide +kernel
theorem dJ2_getChar_3b067_31 : decode cJ2_getChar_3b067 31 = .ok (.istore_n 1, 1) := by decide +kernel
theorem dJ2_getChar_3b067_32 : decode cJ2_getChar_3b067 32 = .ok (.aload_n 0, 1) := by decide +kernel
theorem dJ2_getChar_3b067_33 : decode cJ2_getChar_3b067 33 = .ok (.iload_n 1, 1) := by decide +kernel
theorem dJ2_getChar_3b067_34 : decode cJ2_getChar_3b067 34 = .ok (.iinc 1 1, 3) := by decide +kernel
theorem dJ2_getChar_3b067_37 : decode cJ2_getChar_3b067 37 = .ok (.baload, 1) := by decide +kernel
theorem dJ2_getChar_3b067_38 : decode cJ2_getChar_3b067 38 = .ok (.sipush 255, 3) := by decide +kernel
theorem dJ2_getChar_3b067_41 : decode cJ2_getChar_3b067 41 = .ok (.iand, 1) := by decide +kernel
theorem dJ2_getChar_3b067_42 : decode cJ2_getChar_3b067 42 = .ok (.getstatic 59, 3) := by decide +kernel
theorem dJ2_getChar_3b067_45 : decode cJ2_getChar_3b067 45 = .ok (.ishl, 1) := by decide +kernel
theorem dJ2_getChar_3b067_46 : decode cJ2_getChar_3b067 46 = .ok (.aload_n 0, 1) := by decide +kernel
theorem dJ2_getChar_3b067_47 : decode cJ2_getChar_3b067 47 = .ok (.iload_n 1, 1) := by decide +kernel
theorem dJ2_getChar_3b067_48 : decode cJ2_getChar_3b067 48 = .ok (.baload, 1) := by decide +kernel
theorem dJ2_getChar_3b067_49 : decode cJ2_getChar_3b067 49 = .ok (.sipush 255, 3) := by decide +kernel
theorem dJ2_getChar_3b067_52 : decode cJ2_getChar_3b067 52 = .ok (.iand, 1) := by decide +kernel
theorem dJ2_getChar_3b067_53 : decode cJ2_getChar_3b067 53 = .ok (.getstatic 63, 3) := by decide +kernel
theorem dJ2_getChar_3b067_56 : decode cJ2_getChar_3b067 56 = .ok (.ishl, 1) := by decide +kernel
theorem dJ2_getChar_3b067_57 : decode cJ2_getChar_3b067 57 = .ok (.ior, 1) := by decide +kernel
theorem dJ2_getChar_3b067_58 : decode cJ2_getChar_3b067 58 = .ok (.i2c, 1) := by decide +kernel
theorem dJ2_getChar_3b067_59 : decode cJ2_getChar_3b067 59 = .ok (.ireturn, 1) := by decide +kernel
theorem dJ2_length_9d52b_0 : decode cJ2_length_9d52b 0 = .ok (.aload_n 0, 1) := by decide +kernel
theorem dJ2_length_9d52b_1 : decode cJ2_length_9d52b 1 = .ok (.arraylength, 1) := by decide +kernel
theorem dJ2_length_9d52b_2 : decode cJ2_length_9d52b 2 = .ok (.iconst 1, 1) := by decide +kernel
theorem dJ2_length_9d52b_3 : decode cJ2_length_9d52b 3 = .ok (.ishr, 1) := by decide +kernel
theorem dJ2_length_9d52b_4 : decode cJ2_length_9d52b 4 = .ok (.ireturn, 1) := by decide +kernel
theorem dJ2_coderFromArrayLen_85cad_0 : decode cJ2_coderFromArrayLen_85cad 0 = .ok (.iload_n 1, 1) := by decide +kernel
theorem dJ2_coderFromArrayLen_85cad_1 : decode cJ2_coderFromArrayLen_85cad 1 = .ok (.aload_n 0, 1) := by decide +kernel
theorem dJ2_coderFromArrayLen_85cad_2 : decode cJ2_coderFromArrayLen_85cad 2 = .ok (.arraylength, 1) := by decide +kernel
theorem dJ2_coderFromArrayLen_85cad_3 : decode cJ2_coderFromArrayLen_85cad 3 = .ok (.isub, 1) := by decide +kernel
theorem dJ2_coderFromArrayLen_85cad_4 : decode cJ2_coderFromArrayLen_85cad 4 = .ok (.bipush 31, 2) := by decide +kernel
theorem dJ2_coderFromArrayLen_85cad_6 : decode cJ2_coderFromArrayLen_85cad 6 = .ok (.iushr, 1) := by decide +kernel
theorem dJ2_coderFromArrayLen_85cad_7 : decode cJ2_coderFromArrayLen_85cad 7 = .ok (.i2b, 1) := by decide +kernel
theorem dJ2_coderFromArrayLen_85cad_8 : decode cJ2_coderFromArrayLen_85cad 8 = .ok (.ireturn, 1) := by decide +kernel
theorem dJ2_compress_39247_0 : decode cJ2_compress_39247 0 = .ok (.iload_n 2, 1) := by decide +kernel
theorem dJ2_compress_39247_1 : decode cJ2_compress_39247 1 = .ok (.newarray .byte, 2) := by decide +kernel
theorem dJ2_compress_39247_3 : decode cJ2_compress_39247 3 = .ok (.astore_n 3, 1) := by decide +kernel
theorem dJ2_compress_39247_4 : decode cJ2_compress_39247 4 = .ok (.aload_n 0, 1) := by decide +kernel
theorem dJ2_compress_39247_5 : decode cJ2_compress_39247 5 = .ok (.iload_n 1, 1) := by decide +kernel
theorem dJ2_compress_39247_6 : decode cJ2_compress_39247 6 = .ok (.aload_n 3, 1) := by decide +kernel
theorem dJ2_compress_39247_7 : decode cJ2_compress_39247 7 = .ok (.iconst 0, 1) := by decide +kernel
theorem dJ2_compress_39247_8 : decode cJ2_compress_39247 8 = .ok (.iload_n 2, 1) := by decide +kernel
theorem dJ2_compress_39247_9 : decode cJ2_compress_39247 9 = .ok (.invokestatic 123, 3) := by decide +kernel
theorem dJ2_compress_39247_12 : decode cJ2_compress_39247 12 = .ok (.istore 4, 2) := by decide +kernel
theorem dJ2_compress_39247_14 : decode cJ2_compress_39247 14 = .ok (.iload 4, 2) := by decide +kernel
theorem dJ2_compress_39247_16 : decode cJ2_compress_39247 16 = .ok (.iload_n 2, 1) := by decide +kernel
theorem dJ2_compress_39247_17 : decode cJ2_compress_39247 17 = .ok (.if_icmp .eq 47, 3) := by decide +kernel
theorem dJ2_compress_39247_20 : decode cJ2_compress_39247 20 = .ok (.aload_n 0, 1) := by decide +kernel
theorem dJ2_compress_39247_21 : decode cJ2_compress_39247 21 = .ok (.iload_n 1, 1) := by decide +kernel
theorem dJ2_compress_39247_22 : decode cJ2_compress_39247 22 = .ok (.iconst 1, 1) := by decide +kernel
theorem dJ2_compress_39247_23 : decode cJ2_compress_39247 23 = .ok (.ishl, 1) := by decide +kernel
theorem dJ2_compress_39247_24 : decode cJ2_compress_39247 24 = .ok (.iload_n 1, 1) := by decide +kernel
theorem dJ2_compress_39247_25 : decode cJ2_compress_39247 25 = .ok (.iload_n 2, 1) := by decide +kernel
theorem dJ2_compress_39247_26 : decode cJ2_compress_39247 26 = .ok (.iadd, 1) := by decide +kernel
theorem dJ2_compress_39247_27 : decode cJ2_compress_39247 27 = .ok (.invokestatic 11, 3) := by decide +kernel
theorem dJ2_compress_39247_30 : decode cJ2_compress_39247 30 = .ok (.invokestatic 126, 3) := by decide +kernel
theorem dJ2_compress_39247_33 : decode cJ2_compress_39247 33 = .ok (.astore 5, 2) := by decide +kernel
theorem dJ2_compress_39247_35 : decode cJ2_compress_39247 35 = .ok (.aload 5, 2) := by decide +kernel
theorem dJ2_compress_39247_37 : decode cJ2_compress_39247 37 = .ok (.iload 4, 2) := by decide +kernel
theorem dJ2_compress_39247_39 : decode cJ2_compress_39247 39 = .ok (.invokestatic 71, 3) := by decide +kernel
theorem dJ2_compress_39247_42 : decode cJ2_compress_39247 42 = .ok (.sipush 255, 3) := by decide +kernel
theorem dJ2_compress_39247_45 : decode cJ2_compress_39247 45 = .ok (.if_icmp .gt 16, 3) := by decide +kernel
theorem dJ2_compress_39247_48 : decode cJ2_compress_39247 48 = .ok (.aload 5, 2) := by decide +kernel
theorem dJ2_compress_39247_50 : decode cJ2_compress_39247 50 = .ok (.iconst 0, 1) := by decide +kernel
theorem dJ2_compress_39247_51 : decode cJ2_compress_39247 51 = .ok (.aload_n 3, 1) := by decide +kernel
theorem dJ2_compress_39247_52 : decode cJ2_compress_39247 52 = .ok (.iconst 0, 1) := by decide +kernel
theorem dJ2_compress_39247_53 : decode cJ2_compress_39247 53 = .ok (.iload_n 2, 1) := by decide +kernel
theorem dJ2_compress_39247_54 : decode cJ2_compress_39247 54 = .ok (.invokestatic 123, 3) := by decide +kernel
theorem dJ2_compress_39247_57 : decode cJ2_compress_39247 57 = .ok (.iload_n 2, 1) := by decide +kernel
theorem dJ2_compress_39247_58 : decode cJ2_compress_39247 58 = .ok (.if_icmp .eq 6, 3) := by decide +kernel
theorem dJ2_compress_39247_61 : decode cJ2_compress_39247 61 = .ok (.aload 5, 2) := by decide +kernel
theorem dJ2_compress_39247_63 : decode cJ2_compress_39247 63 = .ok (.areturn, 1) := by decide +kernel
theorem dJ2_compress_39247_64 : decode cJ2_compress_39247 64 = .ok (.aload_n 3, 1) := by decide +kernel
theorem dJ2_compress_39247_65 : decode cJ2_compress_39247 65 = .ok (.areturn, 1) := by decide +kernel
theorem dJ2_compress_5af95_0 : decode cJ2_compress_5af95 0 = .ok (.iload_n 1, 1) := by decide +kernel
theorem dJ2_compress_5af95_1 : decode cJ2_compress_5af95 1 = .ok (.iload 4, 2) := by decide +kernel
theorem dJ2_compress_5af95_3 : decode cJ2_compress_5af95 3 = .ok (.aload_n 0, 1) := by decide +kernel
theorem dJ2_compress_5af95_4 : decode cJ2_compress_5af95 4 = .ok (.invokestatic 173, 3) := by decide +kernel
theorem dJ2_compress_5af95_7 : decode cJ2_compress_5af95 7 = .ok (.iconst 0, 1) := by decide +kernel
theorem dJ2_compress_5af95_8 : decode cJ2_compress_5af95 8 = .ok (.istore 5, 2) := by decide +kernel
theorem dJ2_compress_5af95_10 : decode cJ2_compress_5af95 10 = .ok (.iload 5, 2) := by decide +kernel
theorem dJ2_compress_5af95_12 : decode cJ2_compress_5af95 12 = .ok (.iload 4, 2) := by decide +kernel
theorem dJ2_compress_5af95_14 : decode cJ2_compress_5af95 14 = .ok (.if_icmp .ge 39, 3) := by decide +kernel
theorem dJ2_compress_5af95_17 : decode cJ2_compress_5af95 17 = .ok (.aload_n 0, 1) := by decide +kernel
theorem dJ2_compress_5af95_18 : decode cJ2_compress_5af95 18 = .ok (.iload_n 1, 1) := by decide +kernel
theorem dJ2_compress_5af95_19 : decode cJ2_compress_5af95 19 = .ok (.invokestatic 71, 3) := by decide +kernel
theorem dJ2_compress_5af95_22 : decode cJ2_compress_5af95 22 = .ok (.istore 6, 2) := by decide +kernel
theorem dJ2_compress_5af95_24 : decode cJ2_compress_5af95 24 = .ok (.iload 6, 2) := by decide +kernel
theorem dJ2_compress_5af95_26 : decode cJ2_compress_5af95 26 = .ok (.sipush 255, 3) := by decide +kernel
theorem dJ2_compress_5af95_29 : decode cJ2_compress_5af95 29 = .ok (.if_icmp .le 6, 3) := by decide +kernel
theorem dJ2_compress_5af95_32 : decode cJ2_compress_5af95 32 = .ok (.iload 5, 2) := by decide +kernel
theorem dJ2_compress_5af95_34 : decode cJ2_compress_5af95 34 = .ok (.ireturn, 1) := by decide +kernel
theorem dJ2_compress_5af95_35 : decode cJ2_compress_5af95 35 = .ok (.aload_n 2, 1) := by decide +kernel
theorem dJ2_compress_5af95_36 : decode cJ2_compress_5af95 36 = .ok (.iload_n 3, 1) := by decide +kernel
theorem dJ2_compress_5af95_37 : decode cJ2_compress_5af95 37 = .ok (.iload 6, 2) := by decide +kernel
theorem dJ2_compress_5af95_39 : decode cJ2_compress_5af95 39 = .ok (.i2b, 1) := by decide +kernel
theorem dJ2_compress_5af95_40 : decode cJ2_compress_5af95 40 = .ok (.bastore, 1) := by decide +kernel
theorem dJ2_compress_5af95_41 : decode cJ2_compress_5af95 41 = .ok (.iinc 1 1, 3) := by decide +kernel
theorem dJ2_compress_5af95_44 : decode cJ2_compress_5af95 44 = .ok (.iinc 3 1, 3) := by decide +kernel
theorem dJ2_compress_5af95_47 : decode cJ2_compress_5af95 47 = .ok (.iinc 5 1, 3) := by decide +kernel
theorem dJ2_compress_5af95_50 : decode cJ2_compress_5af95 50 = .ok (.goto (-40), 3) := by decide +kernel
theorem dJ2_compress_5af95_53 : decode cJ2_compress_5af95 53 = .ok (.iload 4, 2) := by decide +kernel
theorem dJ2_compress_5af95_55 : decode cJ2_compress_5af95 55 = .ok (.ireturn, 1) := by decide +kernel
theorem dJ2_fillNull_b72d1_0 : decode cJ2_fillNull_b72d1 0 = .ok (.aload_n 0, 1) := by decide +kernel
theorem dJ2_fillNull_b72d1_1 : decode cJ2_fillNull_b72d1 1 = .ok (.iload_n 1, 1) := by decide +kernel
theorem dJ2_fillNull_b72d1_2 : decode cJ2_fillNull_b72d1 2 = .ok (.iconst 1, 1) := by decide +kernel
theorem dJ2_fillNull_b72d1_3 : decode cJ2_fillNull_b72d1 3 = .ok (.ishl, 1) := by decide +kernel
theorem dJ2_fillNull_b72d1_4 : decode cJ2_fillNull_b72d1 4 = .ok (.iload_n 2, 1) := by decide +kernel
theorem dJ2_fillNull_b72d1_5 : decode cJ2_fillNull_b72d1 5 = .ok (.iconst 1, 1) := by decide +kernel
theorem dJ2_fillNull_b72d1_6 : decode cJ2_fillNull_b72d1 6 = .ok (.ishl, 1) := by decide +kernel
theorem dJ2_fillNull_b72d1_7 : decode cJ2_fillNull_b72d1 7 = .ok (.iconst 0, 1) := by decide +kernel
theorem dJ2_fillNull_b72d1_8 : decode cJ2_fillNull_b72d1 8 = .ok (.invokestatic 380, 3) := by decide +kernel
theorem dJ2_fillNull_b72d1_11 : decode cJ2_fillNull_b72d1 11 = .ok (.return_, 1) := by decide +kernel
theorem dJ2_putCharSB_b72d1_0 : decode cJ2_putCharSB_b72d1 0 = .ok (.iload_n 1, 1) := by decide +kernel
theorem dJ2_putCharSB_b72d1_1 : decode cJ2_putCharSB_b72d1 1 = .ok (.aload_n 0, 1) := by decide +kernel
theorem dJ2_putCharSB_b72d1_2 : decode cJ2_putCharSB_b72d1 2 = .ok (.invokestatic 67, 3) := by decide +kernel
theorem dJ2_putCharSB_b72d1_5 : decode cJ2_putCharSB_b72d1 5 = .ok (.aload_n 0, 1) := by decide +kernel
theorem dJ2_putCharSB_b72d1_6 : decode cJ2_putCharSB_b72d1 6 = .ok (.iload_n 1, 1) := by decide +kernel
theorem dJ2_putCharSB_b72d1_7 : decode cJ2_putCharSB_b72d1 7 = .ok (.iload_n 2, 1) := by decide +kernel
theorem dJ2_putCharSB_b72d1_8 : decode cJ2_putCharSB_b72d1 8 = .ok (.invokestatic 111, 3) := by decide +kernel
theorem dJ2_putCharSB_b72d1_11 : decode cJ2_putCharSB_b72d1 11 = .ok (.return_, 1) := by decide +kernel
theorem dJ2_getChars_46870_0 : decode cJ2_getChars_46870 0 = .ok (.iload_n 1, 1) := by decide +kernel
theorem dJ2_getChars_46870_1 : decode cJ2_getChars_46870 1 = .ok (.iload_n 2, 1) := by decide +kernel
theorem dJ2_getChars_46870_2 : decode cJ2_getChars_46870 2 = .ok (.aload_n 3, 1) := by decide +kernel
theorem dJ2_getChars_46870_3 : decode cJ2_getChars_46870 3 = .ok (.invokestatic 96, 3) := by decide +kernel
theorem dJ2_getChars_46870_6 : decode cJ2_getChars_46870 6 = .ok (.iload_n 0, 1) := by decide +kernel
theorem dJ2_getChars_46870_7 : decode cJ2_getChars_46870 7 = .ok (.iload_n 2, 1) := by decide +kernel
theorem dJ2_getChars_46870_8 : decode cJ2_getChars_46870 8 = .ok (.aload_n 3, 1) := by decide +kernel
theorem dJ2_getChars_46870_9 : decode cJ2_getChars_46870 9 = .ok (.invokestatic 393, 3) := by decide +kernel
theorem dJ2_getChars_46870_12 : decode cJ2_getChars_46870 12 = .ok (.istore 4, 2) := by decide +kernel
theorem dJ2_getChars_46870_14 : decode cJ2_getChars_46870 14 = .ok (.getstatic 44, 3) := by decide +kernel
theorem dJ2_getChars_46870_17 : decode cJ2_getChars_46870 17 = .ok (.ifCond .ne 17, 3) := by decide +kernel
theorem dJ2_getChars_46870_20 : decode cJ2_getChars_46870 20 = .ok (.iload_n 1, 1) := by decide +kernel
theorem dJ2_getChars_46870_21 : decode cJ2_getChars_46870 21 = .ok (.iload 4, 2) := by decide +kernel
theorem dJ2_getChars_46870_23 : decode cJ2_getChars_46870 23 = .ok (.if_icmp .eq 11, 3) := by decide +kernel
theorem dJ2_getChars_46870_26 : decode cJ2_getChars_46870 26 = .ok (.new 52, 3) := by decide +kernel
theorem dJ2_getChars_46870_29 : decode cJ2_getChars_46870 29 = .ok (.dup, 1) := by decide +kernel
theorem dJ2_getChars_46870_30 : decode cJ2_getChars_46870 30 = .ok (.invokespecial 66, 3) := by decide +kernel
theorem dJ2_getChars_46870_33 : decode cJ2_getChars_46870 33 = .ok (.athrow, 1) := by decide +kernel
theorem dJ2_getChars_46870_34 : decode cJ2_getChars_46870 34 = .ok (.iload 4, 2) := by decide +kernel
theorem dJ2_getChars_46870_36 : decode cJ2_getChars_46870 36 = .ok (.ireturn, 1) := by decide +kernel
theorem dJ2_putCharsAt_cd4e5_0 : decode cJ2_putCharsAt_cd4e5 0 = .ok (.iload_n 1, 1) := by decide +kernel
theorem dJ2_putCharsAt_cd4e5_1 : decode cJ2_putCharsAt_cd4e5 1 = .ok (.iconst 4, 1) := by decide +kernel
theorem dJ2_putCharsAt_cd4e5_2 : decode cJ2_putCharsAt_cd4e5 2 = .ok (.iadd, 1) := by decide +kernel
theorem dJ2_putCharsAt_cd4e5_3 : decode cJ2_putCharsAt_cd4e5 3 = .ok (.istore 6, 2) := by decide +kernel
theorem dJ2_putCharsAt_cd4e5_5 : decode cJ2_putCharsAt_cd4e5 5 = .ok (.iload_n 1, 1) := by decide +kernel
theorem dJ2_putCharsAt_cd4e5_6 : decode cJ2_putCharsAt_cd4e5 6 = .ok (.iload 6, 2) := by decide +kernel
theorem dJ2_putCharsAt_cd4e5_8 : decode cJ2_putCharsAt_cd4e5 8 = .ok (.aload_n 0, 1) := by decide +kernel
theorem dJ2_putCharsAt_cd4e5_9 : decode cJ2_putCharsAt_cd4e5 9 = .ok (.invokestatic 96, 3) := by decide +kernel
theorem dJ2_putCharsAt_cd4e5_12 : decode cJ2_putCharsAt_cd4e5 12 = .ok (.aload_n 0, 1) := by decide +kernel
theorem dJ2_putCharsAt_cd4e5_13 : decode cJ2_putCharsAt_cd4e5 13 = .ok (.iload_n 1, 1) := by decide +kernel
theorem dJ2_putCharsAt_cd4e5_14 : decode cJ2_putCharsAt_cd4e5 14 = .ok (.iinc 1 1, 3) := by decide +kernel
theorem dJ2_putCharsAt_cd4e5_17 : decode cJ2_putCharsAt_cd4e5 17 = .ok (.iload_n 2, 1) := by decide +kernel
theorem dJ2_putCharsAt_cd4e5_18 : decode cJ2_putCharsAt_cd4e5 18 = .ok (.invokestatic 111, 3) := by decide +kernel
theorem dJ2_putCharsAt_cd4e5_21 : decode cJ2_putCharsAt_cd4e5 21 = .ok (.aload_n 0, 1) := by decide +kernel
theorem dJ2_putCharsAt_cd4e5_22 : decode cJ2_putCharsAt_cd4e5 22 = .ok (.iload_n 1, 1) := by decide +kernel
theorem dJ2_putCharsAt_cd4e5_23 : decode cJ2_putCharsAt_cd4e5 23 = .ok (.iinc 1 1, 3) := by decide +kernel
theorem dJ2_putCharsAt_cd4e5_26 : decode cJ2_putCharsAt_cd4e5 26 = .ok (.iload_n 3, 1) := by decide +kernel
theorem dJ2_putCharsAt_cd4e5_27 : decode cJ2_putCharsAt_cd4e5 27 = .ok (.invokestatic 111, 3) := by decide +kernel
theorem dJ2_putCharsAt_cd4e5_30 : decode cJ2_putCharsAt_cd4e5 30 = .ok (.aload_n 0, 1) := by decide +kernel
theorem dJ2_putCharsAt_cd4e5_31 : decode cJ2_putCharsAt_cd4e5 31 = .ok (.iload_n 1, 1) := by decide +kernel
theorem dJ2_putCharsAt_cd4e5_32 : decode cJ2_putCharsAt_cd4e5 32 = .ok (.iinc 1 1, 3) := by decide +kernel
theorem dJ2_putCharsAt_cd4e5_35 : decode cJ2_putCharsAt_cd4e5 35 = .ok (.iload 4, 2) := by decide +kernel
theorem dJ2_putCharsAt_cd4e5_37 : decode cJ2_putCharsAt_cd4e5 37 = .ok (.invokestatic 111, 3) := by decide +kernel
theorem dJ2_putCharsAt_cd4e5_40 : decode cJ2_putCharsAt_cd4e5 40 = .ok (.aload_n 0, 1) := by decide +kernel
theorem dJ2_putCharsAt_cd4e5_41 : decode cJ2_putCharsAt_cd4e5 41 = .ok (.iload_n 1, 1) := by decide +kernel
theorem dJ2_putCharsAt_cd4e5_42 : decode cJ2_putCharsAt_cd4e5 42 = .ok (.iinc 1 1, 3) := by decide +kernel
theorem dJ2_putCharsAt_cd4e5_45 : decode cJ2_putCharsAt_cd4e5 45 = .ok (.iload 5, 2) := by decide +kernel
theorem dJ2_putCharsAt_cd4e5_47 : decode cJ2_putCharsAt_cd4e5 47 = .ok (.invokestatic 111, 3) := by decide +kernel
theorem dJ2_putCharsAt_cd4e5_50 : decode cJ2_putCharsAt_cd4e5 50 = .ok (.getstatic 44, 3) := by decide +kernel
theorem dJ2_putCharsAt_cd4e5_53 : decode cJ2_putCharsAt_cd4e5 53 = .ok (.ifCond .ne 17, 3) := by decide +kernel
theorem dJ2_putCharsAt_cd4e5_56 : decode cJ2_putCharsAt_cd4e5 56 = .ok (.iload_n 1, 1) := by decide +kernel
theorem dJ2_putCharsAt_cd4e5_57 : decode cJ2_putCharsAt_cd4e5 57 = .ok (.iload 6, 2) := by decide +kernel
theorem dJ2_putCharsAt_cd4e5_59 : decode cJ2_putCharsAt_cd4e5 59 = .ok (.if_icmp .eq 11, 3) := by decide +kernel
theorem dJ2_putCharsAt_cd4e5_62 : decode cJ2_putCharsAt_cd4e5 62 = .ok (.new 52, 3) := by decide +kernel
theorem dJ2_putCharsAt_cd4e5_65 : decode cJ2_putCharsAt_cd4e5 65 = .ok (.dup, 1) := by decide +kernel
theorem dJ2_putCharsAt_cd4e5_66 : decode cJ2_putCharsAt_cd4e5 66 = .ok (.invokespecial 66, 3) := by decide +kernel
theorem dJ2_putCharsAt_cd4e5_69 : decode cJ2_putCharsAt_cd4e5 69 = .ok (.athrow, 1) := by decide +kernel
theorem dJ2_putCharsAt_cd4e5_70 : decode cJ2_putCharsAt_cd4e5 70 = .ok (.iload 6, 2) := by decide +kernel
theorem dJ2_putCharsAt_cd4e5_72 : decode cJ2_putCharsAt_cd4e5 72 = .ok (.ireturn, 1) := by decide +kernel
theorem dJ2_inflate_0e8fd_0 : decode cJ2_inflate_0e8fd 0 = .ok (.iload_n 3, 1) := by decide +kernel
theorem dJ2_inflate_0e8fd_1 : decode cJ2_inflate_0e8fd 1 = .ok (.iload 4, 2) := by decide +kernel
theorem dJ2_inflate_0e8fd_3 : decode cJ2_inflate_0e8fd 3 = .ok (.aload_n 2, 1) := by decide +kernel
theorem dJ2_inflate_0e8fd_4 : decode cJ2_inflate_0e8fd 4 = .ok (.invokestatic 173, 3) := by decide +kernel
theorem dJ2_inflate_0e8fd_7 : decode cJ2_inflate_0e8fd 7 = .ok (.iconst 0, 1) := by decide +kernel
theorem dJ2_inflate_0e8fd_8 : decode cJ2_inflate_0e8fd 8 = .ok (.istore 5, 2) := by decide +kernel
theorem dJ2_inflate_0e8fd_10 : decode cJ2_inflate_0e8fd 10 = .ok (.iload 5, 2) := by decide +kernel
theorem dJ2_inflate_0e8fd_12 : decode cJ2_inflate_0e8fd 12 = .ok (.iload 4, 2) := by decide +kernel
theorem dJ2_inflate_0e8fd_14 : decode cJ2_inflate_0e8fd 14 = .ok (.if_icmp .ge 27, 3) := by decide +kernel
theorem dJ2_inflate_0e8fd_17 : decode cJ2_inflate_0e8fd 17 = .ok (.aload_n 2, 1) := by decide +kernel
theorem dJ2_inflate_0e8fd_18 : decode cJ2_inflate_0e8fd 18 = .ok (.iload_n 3, 1) := by decide +kernel
theorem dJ2_inflate_0e8fd_19 : decode cJ2_inflate_0e8fd 19 = .ok (.iinc 3 1, 3) := by decide +kernel
theorem dJ2_inflate_0e8fd_22 : decode cJ2_inflate_0e8fd 22 = .ok (.aload_n 0, 1) := by decide +kernel
theorem dJ2_inflate_0e8fd_23 : decode cJ2_inflate_0e8fd 23 = .ok (.iload_n 1, 1) := by decide +kernel
theorem dJ2_inflate_0e8fd_24 : decode cJ2_inflate_0e8fd 24 = .ok (.iinc 1 1, 3) := by decide +kernel
theorem dJ2_inflate_0e8fd_27 : decode cJ2_inflate_0e8fd 27 = .ok (.baload, 1) := by decide +kernel
theorem dJ2_inflate_0e8fd_28 : decode cJ2_inflate_0e8fd 28 = .ok (.sipush 255, 3) := by decide +kernel
theorem dJ2_inflate_0e8fd_31 : decode cJ2_inflate_0e8fd 31 = .ok (.iand, 1) := by decide +kernel
theorem dJ2_inflate_0e8fd_32 : decode cJ2_inflate_0e8fd 32 = .ok (.invokestatic 111, 3) := by decide +kernel
theorem dJ2_inflate_0e8fd_35 : decode cJ2_inflate_0e8fd 35 = .ok (.iinc 5 1, 3) := by decide +kernel
theorem dJ2_inflate_0e8fd_38 : decode cJ2_inflate_0e8fd 38 = .ok (.goto (-28), 3) := by decide +kernel
theorem dJ2_inflate_0e8fd_41 : decode cJ2_inflate_0e8fd 41 = .ok (.return_, 1) := by decide +kernel
theorem dJ2_getChars_ba4f3_0 : decode cJ2_getChars_ba4f3 0 = .ok (.iload_n 1, 1) := by decide +kernel
theorem dJ2_getChars_ba4f3_1 : decode cJ2_getChars_ba4f3 1 = .ok (.istore 5, 2) := by decide +kernel
theorem dJ2_getChars_ba4f3_3 : decode cJ2_getChars_ba4f3 3 = .ok (.iload_n 0, 1) := by decide +kernel
theorem dJ2_getChars_ba4f3_4 : decode cJ2_getChars_ba4f3 4 = .ok (.ifCond .ge 7, 3) := by decide +kernel
theorem dJ2_getChars_ba4f3_7 : decode cJ2_getChars_ba4f3 7 = .ok (.iconst 1, 1) := by decide +kernel
theorem dJ2_getChars_ba4f3_8 : decode cJ2_getChars_ba4f3 8 = .ok (.goto 4, 3) := by decide +kernel
theorem dJ2_getChars_ba4f3_11 : decode cJ2_getChars_ba4f3 11 = .ok (.iconst 0, 1) := by decide +kernel
theorem dJ2_getChars_ba4f3_12 : decode cJ2_getChars_ba4f3 12 = .ok (.istore 6, 2) := by decide +kernel
theorem dJ2_getChars_ba4f3_14 : decode cJ2_getChars_ba4f3 14 = .ok (.iload 6, 2) := by decide +kernel
theorem dJ2_getChars_ba4f3_16 : decode cJ2_getChars_ba4f3 16 = .ok (.ifCond .ne 6, 3) := by decide +kernel
theorem dJ2_getChars_ba4f3_19 : decode cJ2_getChars_ba4f3 19 = .ok (.iload_n 0, 1) := by decide +kernel
theorem dJ2_getChars_ba4f3_20 : decode cJ2_getChars_ba4f3 20 = .ok (.ineg, 1) := by decide +kernel
theorem dJ2_getChars_ba4f3_21 : decode cJ2_getChars_ba4f3 21 = .ok (.istore_n 0, 1) := by decide +kernel
theorem dJ2_getChars_ba4f3_22 : decode cJ2_getChars_ba4f3 22 = .ok (.iload_n 0, 1) := by decide +kernel
theorem dJ2_getChars_ba4f3_23 : decode cJ2_getChars_ba4f3 23 = .ok (.bipush (-100), 2) := by decide +kernel
theorem dJ2_getChars_ba4f3_25 : decode cJ2_getChars_ba4f3 25 = .ok (.if_icmp .gt 51, 3) := by decide +kernel
theorem dJ2_getChars_ba4f3_28 : decode cJ2_getChars_ba4f3 28 = .ok (.iload_n 0, 1) := by decide +kernel
theorem dJ2_getChars_ba4f3_29 : decode cJ2_getChars_ba4f3 29 = .ok (.bipush 100, 2) := by decide +kernel
theorem dJ2_getChars_ba4f3_31 : decode cJ2_getChars_ba4f3 31 = .ok (.idiv, 1) := by decide +kernel
theorem dJ2_getChars_ba4f3_32 : decode cJ2_getChars_ba4f3 32 = .ok (.istore_n 3, 1) := by decide +kernel
theorem dJ2_getChars_ba4f3_33 : decode cJ2_getChars_ba4f3 33 = .ok (.iload_n 3, 1) := by decide +kernel
theorem dJ2_getChars_ba4f3_34 : decode cJ2_getChars_ba4f3 34 = .ok (.bipush 100, 2) := by decide +kernel
theorem dJ2_getChars_ba4f3_36 : decode cJ2_getChars_ba4f3 36 = .ok (.imul, 1) := by decide +kernel
theorem dJ2_getChars_ba4f3_37 : decode cJ2_getChars_ba4f3 37 = .ok (.iload_n 0, 1) := by decide +kernel
theorem dJ2_getChars_ba4f3_38 : decode cJ2_getChars_ba4f3 38 = .ok (.isub, 1) := by decide +kernel
theorem dJ2_getChars_ba4f3_39 : decode cJ2_getChars_ba4f3 39 = .ok (.istore 4, 2) := by decide +kernel
theorem dJ2_getChars_ba4f3_41 : decode cJ2_getChars_ba4f3 41 = .ok (.iload_n 3, 1) := by decide +kernel
theorem dJ2_getChars_ba4f3_42 : decode cJ2_getChars_ba4f3 42 = .ok (.istore_n 0, 1) := by decide +kernel
theorem dJ2_getChars_ba4f3_43 : decode cJ2_getChars_ba4f3 43 = .ok (.aload_n 2, 1) := by decide +kernel
theorem dJ2_getChars_ba4f3_44 : decode cJ2_getChars_ba4f3 44 = .ok (.iinc 5 (-1), 3) := by decide +kernel
theorem dJ2_getChars_ba4f3_47 : decode cJ2_getChars_ba4f3 47 = .ok (.iload 5, 2) := by decide +kernel
theorem dJ2_getChars_ba4f3_49 : decode cJ2_getChars_ba4f3 49 = .ok (.getstatic 403, 3) := by decide +kernel
theorem dJ2_getChars_ba4f3_52 : decode cJ2_getChars_ba4f3 52 = .ok (.iload 4, 2) := by decide +kernel
theorem dJ2_getChars_ba4f3_54 : decode cJ2_getChars_ba4f3 54 = .ok (.baload, 1) := by decide +kernel
theorem dJ2_getChars_ba4f3_55 : decode cJ2_getChars_ba4f3 55 = .ok (.invokestatic 111, 3) := by decide +kernel
theorem dJ2_getChars_ba4f3_58 : decode cJ2_getChars_ba4f3 58 = .ok (.aload_n 2, 1) := by decide +kernel
theorem dJ2_getChars_ba4f3_59 : decode cJ2_getChars_ba4f3 59 = .ok (.iinc 5 (-1), 3) := by decide +kernel
theorem dJ2_getChars_ba4f3_62 : decode cJ2_getChars_ba4f3 62 = .ok (.iload 5, 2) := by decide +kernel
theorem dJ2_getChars_ba4f3_64 : decode cJ2_getChars_ba4f3 64 = .ok (.getstatic 407, 3) := by decide +kernel
theorem dJ2_getChars_ba4f3_67 : decode cJ2_getChars_ba4f3 67 = .ok (.iload 4, 2) := by decide +kernel
theorem dJ2_getChars_ba4f3_69 : decode cJ2_getChars_ba4f3 69 = .ok (.baload, 1) := by decide +kernel
theorem dJ2_getChars_ba4f3_70 : decode cJ2_getChars_ba4f3 70 = .ok (.invokestatic 111, 3) := by decide +kernel
theorem dJ2_getChars_ba4f3_73 : decode cJ2_getChars_ba4f3 73 = .ok (.goto (-51), 3) := by decide +kernel
theorem dJ2_getChars_ba4f3_76 : decode cJ2_getChars_ba4f3 76 = .ok (.aload_n 2, 1) := by decide +kernel
theorem dJ2_getChars_ba4f3_77 : decode cJ2_getChars_ba4f3 77 = .ok (.iinc 5 (-1), 3) := by decide +kernel
theorem dJ2_getChars_ba4f3_80 : decode cJ2_getChars_ba4f3 80 = .ok (.iload 5, 2) := by decide +kernel
theorem dJ2_getChars_ba4f3_82 : decode cJ2_getChars_ba4f3 82 = .ok (.getstatic 403, 3) := by decide +kernel
theorem dJ2_getChars_ba4f3_85 : decode cJ2_getChars_ba4f3 85 = .ok (.iload_n 0, 1) := by decide +kernel
theorem dJ2_getChars_ba4f3_86 : decode cJ2_getChars_ba4f3 86 = .ok (.ineg, 1) := by decide +kernel
theorem dJ2_getChars_ba4f3_87 : decode cJ2_getChars_ba4f3 87 = .ok (.baload, 1) := by decide +kernel
theorem dJ2_getChars_ba4f3_88 : decode cJ2_getChars_ba4f3 88 = .ok (.invokestatic 111, 3) := by decide +kernel
theorem dJ2_getChars_ba4f3_91 : decode cJ2_getChars_ba4f3 91 = .ok (.iload_n 0, 1) := by decide +kernel
theorem dJ2_getChars_ba4f3_92 : decode cJ2_getChars_ba4f3 92 = .ok (.bipush (-9), 2) := by decide +kernel
theorem dJ2_getChars_ba4f3_94 : decode cJ2_getChars_ba4f3 94 = .ok (.if_icmp .ge 18, 3) := by decide +kernel
theorem dJ2_getChars_ba4f3_97 : decode cJ2_getChars_ba4f3 97 = .ok (.aload_n 2, 1) := by decide +kernel
theorem dJ2_getChars_ba4f3_98 : decode cJ2_getChars_ba4f3 98 = .ok (.iinc 5 (-1), 3) := by decide +kernel
theorem dJ2_getChars_ba4f3_101 : decode cJ2_getChars_ba4f3 101 = .ok (.iload 5, 2) := by decide +kernel
theorem dJ2_getChars_ba4f3_103 : decode cJ2_getChars_ba4f3 103 = .ok (.getstatic 407, 3) := by decide +kernel
theorem dJ2_getChars_ba4f3_106 : decode cJ2_getChars_ba4f3 106 = .ok (.iload_n 0, 1) := by decide +kernel
theorem dJ2_getChars_ba4f3_107 : decode cJ2_getChars_ba4f3 107 = .ok (.ineg, 1) := by decide +kernel
theorem dJ2_getChars_ba4f3_108 : decode cJ2_getChars_ba4f3 108 = .ok (.baload, 1) := by decide +kernel
theorem dJ2_getChars_ba4f3_109 : decode cJ2_getChars_ba4f3 109 = .ok (.invokestatic 111, 3) := by decide +kernel
theorem dJ2_getChars_ba4f3_112 : decode cJ2_getChars_ba4f3 112 = .ok (.iload 6, 2) := by decide +kernel
theorem dJ2_getChars_ba4f3_114 : decode cJ2_getChars_ba4f3 114 = .ok (.ifCond .eq 14, 3) := by decide +kernel
theorem dJ2_getChars_ba4f3_117 : decode cJ2_getChars_ba4f3 117 = .ok (.aload_n 2, 1) := by decide +kernel
theorem dJ2_getChars_ba4f3_118 : decode cJ2_getChars_ba4f3 118 = .ok (.iinc 5 (-1), 3) := by decide +kernel
theorem dJ2_getChars_ba4f3_121 : decode cJ2_getChars_ba4f3 121 = .ok (.iload 5, 2) := by decide +kernel
theorem dJ2_getChars_ba4f3_123 : decode cJ2_getChars_ba4f3 123 = .ok (.bipush 45, 2) := by decide +kernel
theorem dJ2_getChars_ba4f3_125 : decode cJ2_getChars_ba4f3 125 = .ok (.invokestatic 111, 3) := by decide +kernel
theorem dJ2_getChars_ba4f3_128 : decode cJ2_getChars_ba4f3 128 = .ok (.iload 5, 2) := by decide +kernel
theorem dJ2_getChars_ba4f3_130 : decode cJ2_getChars_ba4f3 130 = .ok (.ireturn, 1) := by decide +kernel
theorem dJ2_checkIndex_2214a_0 : decode cJ2_checkIndex_2214a 0 = .ok (.iload_n 0, 1) := by decide +kernel
theorem dJ2_checkIndex_2214a_1 : decode cJ2_checkIndex_2214a 1 = .ok (.aload_n 1, 1) := by decide +kernel
theorem dJ2_checkIndex_2214a_2 : decode cJ2_checkIndex_2214a 2 = .ok (.invokestatic 48, 3) := by decide +kernel
theorem dJ2_checkIndex_2214a_5 : decode cJ2_checkIndex_2214a 5 = .ok (.invokestatic 414, 3) := by decide +kernel
theorem dJ2_checkIndex_2214a_8 : decode cJ2_checkIndex_2214a 8 = .ok (.return_, 1) := by decide +kernel
theorem dJ2_checkBoundsBeginEnd_d044e_0 : decode cJ2_checkBoundsBeginEnd_d044e 0 = .ok (.iload_n 0, 1) := by decide +kernel
theorem dJ2_checkBoundsBeginEnd_d044e_1 : decode cJ2_checkBoundsBeginEnd_d044e 1 = .ok (.iload_n 1, 1) := by decide +kernel
theorem dJ2_checkBoundsBeginEnd_d044e_2 : decode cJ2_checkBoundsBeginEnd_d044e 2 = .ok (.aload_n 2, 1) := by decide +kernel
theorem dJ2_checkBoundsBeginEnd_d044e_3 : decode cJ2_checkBoundsBeginEnd_d044e 3 = .ok (.invokestatic 48, 3) := by decide +kernel
theorem dJ2_checkBoundsBeginEnd_d044e_6 : decode cJ2_checkBoundsBeginEnd_d044e 6 = .ok (.invokestatic 241, 3) := by decide +kernel
theorem dJ2_checkBoundsBeginEnd_d044e_9 : decode cJ2_checkBoundsBeginEnd_d044e 9 = .ok (.return_, 1) := by decide +kernel
theorem dJ2_checkBoundsOffCount_d044e_0 : decode cJ2_checkBoundsOffCount_d044e 0 = .ok (.iload_n 0, 1) := by decide +kernel
theorem dJ2_checkBoundsOffCount_d044e_1 : decode cJ2_checkBoundsOffCount_d044e 1 = .ok (.iload_n 1, 1) := by decide +kernel
theorem dJ2_checkBoundsOffCount_d044e_2 : decode cJ2_checkBoundsOffCount_d044e 2 = .ok (.aload_n 2, 1) := by decide +kernel
theorem dJ2_checkBoundsOffCount_d044e_3 : decode cJ2_checkBoundsOffCount_d044e 3 = .ok (.invokestatic 48, 3) := by decide +kernel
theorem dJ2_checkBoundsOffCount_d044e_6 : decode cJ2_checkBoundsOffCount_d044e 6 = .ok (.invokestatic 419, 3) := by decide +kernel
theorem dJ2_checkBoundsOffCount_d044e_9 : decode cJ2_checkBoundsOffCount_d044e 9 = .ok (.pop, 1) := by decide +kernel
theorem dJ2_checkBoundsOffCount_d044e_10 : decode cJ2_checkBoundsOffCount_d044e 10 = .ok (.return_, 1) := by decide +kernel
theorem dJ7_rangeCheck_23922_0 : decode cJ7_rangeCheck_23922 0 = .ok (.iload_n 1, 1) := by decide +kernel
theorem dJ7_rangeCheck_23922_1 : decode cJ7_rangeCheck_23922 1 = .ok (.iload_n 2, 1) := by decide +kernel
theorem dJ7_rangeCheck_23922_2 : decode cJ7_rangeCheck_23922 2 = .ok (.if_icmp .le 44, 3) := by decide +kernel
theorem dJ7_rangeCheck_23922_5 : decode cJ7_rangeCheck_23922 5 = .ok (.new 43, 3) := by decide +kernel
theorem dJ7_rangeCheck_23922_8 : decode cJ7_rangeCheck_23922 8 = .ok (.dup, 1) := by decide +kernel
theorem dJ7_rangeCheck_23922_9 : decode cJ7_rangeCheck_23922 9 = .ok (.new 45, 3) := by decide +kernel
theorem dJ7_rangeCheck_23922_12 : decode cJ7_rangeCheck_23922 12 = .ok (.dup, 1) := by decide +kernel
theorem dJ7_rangeCheck_23922_13 : decode cJ7_rangeCheck_23922 13 = .ok (.invokespecial 47, 3) := by decide +kernel
theorem dJ7_rangeCheck_23922_16 : decode cJ7_rangeCheck_23922 16 = .ok (.ldc 48, 2) := by decide +kernel
theorem dJ7_rangeCheck_23922_18 : decode cJ7_rangeCheck_23922 18 = .ok (.invokevirtual 50, 3) := by decide +kernel
theorem dJ7_rangeCheck_23922_21 : decode cJ7_rangeCheck_23922 21 = .ok (.iload_n 1, 1) := by decide +kernel
theorem dJ7_rangeCheck_23922_22 : decode cJ7_rangeCheck_23922 22 = .ok (.invokevirtual 54, 3) := by decide +kernel
theorem dJ7_rangeCheck_23922_25 : decode cJ7_rangeCheck_23922 25 = .ok (.ldc 57, 2) := by decide +kernel
theorem dJ7_rangeCheck_23922_27 : decode cJ7_rangeCheck_23922 27 = .ok (.invokevirtual 50, 3) := by decide +kernel
theorem dJ7_rangeCheck_23922_30 : decode cJ7_rangeCheck_23922 30 = .ok (.iload_n 2, 1) := by decide +kernel
theorem dJ7_rangeCheck_23922_31 : decode cJ7_rangeCheck_23922 31 = .ok (.invokevirtual 54, 3) := by decide +kernel
theorem dJ7_rangeCheck_23922_34 : decode cJ7_rangeCheck_23922 34 = .ok (.ldc 59, 2) := by decide +kernel
theorem dJ7_rangeCheck_23922_36 : decode cJ7_rangeCheck_23922 36 = .ok (.invokevirtual 50, 3) := by decide +kernel
theorem dJ7_rangeCheck_23922_39 : decode cJ7_rangeCheck_23922 39 = .ok (.invokevirtual 61, 3) := by decide +kernel
theorem dJ7_rangeCheck_23922_42 : decode cJ7_rangeCheck_23922 42 = .ok (.invokespecial 65, 3) := by decide +kernel
theorem dJ7_rangeCheck_23922_45 : decode cJ7_rangeCheck_23922 45 = .ok (.athrow, 1) := by decide +kernel
theorem dJ7_rangeCheck_23922_46 : decode cJ7_rangeCheck_23922 46 = .ok (.iload_n 1, 1) := by decide +kernel
theorem dJ7_rangeCheck_23922_47 : decode cJ7_rangeCheck_23922 47 = .ok (.ifCond .ge 12, 3) := by decide +kernel
theorem dJ7_rangeCheck_23922_50 : decode cJ7_rangeCheck_23922 50 = .ok (.new 68, 3) := by decide +kernel
theorem dJ7_rangeCheck_23922_53 : decode cJ7_rangeCheck_23922 53 = .ok (.dup, 1) := by decide +kernel
theorem dJ7_rangeCheck_23922_54 : decode cJ7_rangeCheck_23922 54 = .ok (.iload_n 1, 1) := by decide +kernel
theorem dJ7_rangeCheck_23922_55 : decode cJ7_rangeCheck_23922 55 = .ok (.invokespecial 70, 3) := by decide +kernel
theorem dJ7_rangeCheck_23922_58 : decode cJ7_rangeCheck_23922 58 = .ok (.athrow, 1) := by decide +kernel
theorem dJ7_rangeCheck_23922_59 : decode cJ7_rangeCheck_23922 59 = .ok (.iload_n 2, 1) := by decide +kernel
theorem dJ7_rangeCheck_23922_60 : decode cJ7_rangeCheck_23922 60 = .ok (.iload_n 0, 1) := by decide +kernel
theorem dJ7_rangeCheck_23922_61 : decode cJ7_rangeCheck_23922 61 = .ok (.if_icmp .le 12, 3) := by decide +kernel
theorem dJ7_rangeCheck_23922_64 : decode cJ7_rangeCheck_23922 64 = .ok (.new 68, 3) := by decide +kernel
theorem dJ7_rangeCheck_23922_67 : decode cJ7_rangeCheck_23922 67 = .ok (.dup, 1) := by decide +kernel
theorem dJ7_rangeCheck_23922_68 : decode cJ7_rangeCheck_23922 68 = .ok (.iload_n 2, 1) := by decide +kernel
theorem dJ7_rangeCheck_23922_69 : decode cJ7_rangeCheck_23922 69 = .ok (.invokespecial 70, 3) := by decide +kernel
theorem dJ7_rangeCheck_23922_72 : decode cJ7_rangeCheck_23922 72 = .ok (.athrow, 1) := by decide +kernel
theorem dJ7_rangeCheck_23922_73 : decode cJ7_rangeCheck_23922 73 = .ok (.return_, 1) := by decide +kernel
theorem dJ7_fill_53178_0 : decode cJ7_fill_53178 0 = .ok (.iconst 0, 1) := by decide +kernel
theorem dJ7_fill_53178_1 : decode cJ7_fill_53178 1 = .ok (.istore_n 2, 1) := by decide +kernel
theorem dJ7_fill_53178_2 : decode cJ7_fill_53178 2 = .ok (.aload_n 0, 1) := by decide +kernel
theorem dJ7_fill_53178_3 : decode cJ7_fill_53178 3 = .ok (.arraylength, 1) := by decide +kernel
theorem dJ7_fill_53178_4 : decode cJ7_fill_53178 4 = .ok (.istore_n 3, 1) := by decide +kernel
theorem dJ7_fill_53178_5 : decode cJ7_fill_53178 5 = .ok (.iload_n 2, 1) := by decide +kernel
theorem dJ7_fill_53178_6 : decode cJ7_fill_53178 6 = .ok (.iload_n 3, 1) := by decide +kernel
theorem dJ7_fill_53178_7 : decode cJ7_fill_53178 7 = .ok (.if_icmp .ge 13, 3) := by decide +kernel
theorem dJ7_fill_53178_10 : decode cJ7_fill_53178 10 = .ok (.aload_n 0, 1) := by decide +kernel
theorem dJ7_fill_53178_11 : decode cJ7_fill_53178 11 = .ok (.iload_n 2, 1) := by decide +kernel
theorem dJ7_fill_53178_12 : decode cJ7_fill_53178 12 = .ok (.iload_n 1, 1) := by decide +kernel
theorem dJ7_fill_53178_13 : decode cJ7_fill_53178 13 = .ok (.iastore, 1) := by decide +kernel
theorem dJ7_fill_53178_14 : decode cJ7_fill_53178 14 = .ok (.iinc 2 1, 3) := by decide +kernel
theorem dJ7_fill_53178_17 : decode cJ7_fill_53178 17 = .ok (.goto (-12), 3) := by decide +kernel
theorem dJ7_fill_53178_20 : decode cJ7_fill_53178 20 = .ok (.return_, 1) := by decide +kernel
theorem dJ7_fill_eb02e_0 : decode cJ7_fill_eb02e 0 = .ok (.aload_n 0, 1) := by decide +kernel
theorem dJ7_fill_eb02e_1 : decode cJ7_fill_eb02e 1 = .ok (.arraylength, 1) := by decide +kernel
theorem dJ7_fill_eb02e_2 : decode cJ7_fill_eb02e 2 = .ok (.iload_n 1, 1) := by decide +kernel
theorem dJ7_fill_eb02e_3 : decode cJ7_fill_eb02e 3 = .ok (.iload_n 2, 1) := by decide +kernel
theorem dJ7_fill_eb02e_4 : decode cJ7_fill_eb02e 4 = .ok (.invokestatic 13, 3) := by decide +kernel
theorem dJ7_fill_eb02e_7 : decode cJ7_fill_eb02e 7 = .ok (.iload_n 1, 1) := by decide +kernel
theorem dJ7_fill_eb02e_8 : decode cJ7_fill_eb02e 8 = .ok (.istore 4, 2) := by decide +kernel
theorem dJ7_fill_eb02e_10 : decode cJ7_fill_eb02e 10 = .ok (.iload 4, 2) := by decide +kernel
theorem dJ7_fill_eb02e_12 : decode cJ7_fill_eb02e 12 = .ok (.iload_n 2, 1) := by decide +kernel
theorem dJ7_fill_eb02e_13 : decode cJ7_fill_eb02e 13 = .ok (.if_icmp .ge 14, 3) := by decide +kernel
theorem dJ7_fill_eb02e_16 : decode cJ7_fill_eb02e 16 = .ok (.aload_n 0, 1) := by decide +kernel
theorem dJ7_fill_eb02e_17 : decode cJ7_fill_eb02e 17 = .ok (.iload 4, 2) := by decide +kernel
theorem dJ7_fill_eb02e_19 : decode cJ7_fill_eb02e 19 = .ok (.iload_n 3, 1) := by decide +kernel
theorem dJ7_fill_eb02e_20 : decode cJ7_fill_eb02e 20 = .ok (.bastore, 1) := by decide +kernel
theorem dJ7_fill_eb02e_21 : decode cJ7_fill_eb02e 21 = .ok (.iinc 4 1, 3) := by decide +kernel
theorem dJ7_fill_eb02e_24 : decode cJ7_fill_eb02e 24 = .ok (.goto (-14), 3) := by decide +kernel
theorem dJ7_fill_eb02e_27 : decode cJ7_fill_eb02e 27 = .ok (.return_, 1) := by decide +kernel
theorem dJ7_copyOf_9075b_0 : decode cJ7_copyOf_9075b 0 = .ok (.iload_n 1, 1) := by decide +kernel
theorem dJ7_copyOf_9075b_1 : decode cJ7_copyOf_9075b 1 = .ok (.aload_n 0, 1) := by decide +kernel
theorem dJ7_copyOf_9075b_2 : decode cJ7_copyOf_9075b 2 = .ok (.arraylength, 1) := by decide +kernel
theorem dJ7_copyOf_9075b_3 : decode cJ7_copyOf_9075b 3 = .ok (.if_icmp .ne 11, 3) := by decide +kernel
theorem dJ7_copyOf_9075b_6 : decode cJ7_copyOf_9075b 6 = .ok (.aload_n 0, 1) := by decide +kernel
theorem dJ7_copyOf_9075b_7 : decode cJ7_copyOf_9075b 7 = .ok (.invokevirtual 310, 3) := by decide +kernel
theorem dJ7_copyOf_9075b_10 : decode cJ7_copyOf_9075b 10 = .ok (.checkcast 311, 3) := by decide +kernel
theorem dJ7_copyOf_9075b_13 : decode cJ7_copyOf_9075b 13 = .ok (.areturn, 1) := by decide +kernel
theorem dJ7_copyOf_9075b_14 : decode cJ7_copyOf_9075b 14 = .ok (.iload_n 1, 1) := by decide +kernel
theorem dJ7_copyOf_9075b_15 : decode cJ7_copyOf_9075b 15 = .ok (.newarray .byte, 2) := by decide +kernel
theorem dJ7_copyOf_9075b_17 : decode cJ7_copyOf_9075b 17 = .ok (.astore_n 2, 1) := by decide +kernel
theorem dJ7_copyOf_9075b_18 : decode cJ7_copyOf_9075b 18 = .ok (.aload_n 0, 1) := by decide +kernel
theorem dJ7_copyOf_9075b_19 : decode cJ7_copyOf_9075b 19 = .ok (.iconst 0, 1) := by decide +kernel
theorem dJ7_copyOf_9075b_20 : decode cJ7_copyOf_9075b 20 = .ok (.aload_n 2, 1) := by decide +kernel
theorem dJ7_copyOf_9075b_21 : decode cJ7_copyOf_9075b 21 = .ok (.iconst 0, 1) := by decide +kernel
theorem dJ7_copyOf_9075b_22 : decode cJ7_copyOf_9075b 22 = .ok (.aload_n 0, 1) := by decide +kernel
theorem dJ7_copyOf_9075b_23 : decode cJ7_copyOf_9075b 23 = .ok (.arraylength, 1) := by decide +kernel
theorem dJ7_copyOf_9075b_24 : decode cJ7_copyOf_9075b 24 = .ok (.iload_n 1, 1) := by decide +kernel
theorem dJ7_copyOf_9075b_25 : decode cJ7_copyOf_9075b 25 = .ok (.invokestatic 304, 3) := by decide +kernel
theorem dJ7_copyOf_9075b_28 : decode cJ7_copyOf_9075b 28 = .ok (.invokestatic 150, 3) := by decide +kernel
theorem dJ7_copyOf_9075b_31 : decode cJ7_copyOf_9075b 31 = .ok (.aload_n 2, 1) := by decide +kernel
theorem dJ7_copyOf_9075b_32 : decode cJ7_copyOf_9075b 32 = .ok (.areturn, 1) := by decide +kernel
theorem dJ7_checkLength_df160_0 : decode cJ7_checkLength_df160 0 = .ok (.iload_n 1, 1) := by decide +kernel
theorem dJ7_checkLength_df160_1 : decode cJ7_checkLength_df160 1 = .ok (.iload_n 0, 1) := by decide +kernel
theorem dJ7_checkLength_df160_2 : decode cJ7_checkLength_df160 2 = .ok (.if_icmp .ge 35, 3) := by decide +kernel
theorem dJ7_checkLength_df160_5 : decode cJ7_checkLength_df160 5 = .ok (.new 43, 3) := by decide +kernel
theorem dJ7_checkLength_df160_8 : decode cJ7_checkLength_df160 8 = .ok (.dup, 1) := by decide +kernel
theorem dJ7_checkLength_df160_9 : decode cJ7_checkLength_df160 9 = .ok (.new 45, 3) := by decide +kernel
theorem dJ7_checkLength_df160_12 : decode cJ7_checkLength_df160 12 = .ok (.dup, 1) := by decide +kernel
theorem dJ7_checkLength_df160_13 : decode cJ7_checkLength_df160 13 = .ok (.invokespecial 47, 3) := by decide +kernel
theorem dJ7_checkLength_df160_16 : decode cJ7_checkLength_df160 16 = .ok (.iload_n 0, 1) := by decide +kernel
theorem dJ7_checkLength_df160_17 : decode cJ7_checkLength_df160 17 = .ok (.invokevirtual 54, 3) := by decide +kernel
theorem dJ7_checkLength_df160_20 : decode cJ7_checkLength_df160 20 = .ok (.ldc_w 337, 3) := by decide +kernel
theorem dJ7_checkLength_df160_23 : decode cJ7_checkLength_df160 23 = .ok (.invokevirtual 50, 3) := by decide +kernel
theorem dJ7_checkLength_df160_26 : decode cJ7_checkLength_df160 26 = .ok (.iload_n 1, 1) := by decide +kernel
theorem dJ7_checkLength_df160_27 : decode cJ7_checkLength_df160 27 = .ok (.invokevirtual 54, 3) := by decide +kernel
theorem dJ7_checkLength_df160_30 : decode cJ7_checkLength_df160 30 = .ok (.invokevirtual 61, 3) := by decide +kernel
theorem dJ7_checkLength_df160_33 : decode cJ7_checkLength_df160 33 = .ok (.invokespecial 65, 3) := by decide +kernel
theorem dJ7_checkLength_df160_36 : decode cJ7_checkLength_df160 36 = .ok (.athrow, 1) := by decide +kernel
theorem dJ7_checkLength_df160_37 : decode cJ7_checkLength_df160 37 = .ok (.return_, 1) := by decide +kernel
theorem dJ7_copyOfRange_39247_0 : decode cJ7_copyOfRange_39247 0 = .ok (.iload_n 1, 1) := by decide +kernel
theorem dJ7_copyOfRange_39247_1 : decode cJ7_copyOfRange_39247 1 = .ok (.ifCond .ne 9, 3) := by decide +kernel
theorem dJ7_copyOfRange_39247_4 : decode cJ7_copyOfRange_39247 4 = .ok (.iload_n 2, 1) := by decide +kernel
theorem dJ7_copyOfRange_39247_5 : decode cJ7_copyOfRange_39247 5 = .ok (.aload_n 0, 1) := by decide +kernel
theorem dJ7_copyOfRange_39247_6 : decode cJ7_copyOfRange_39247 6 = .ok (.arraylength, 1) := by decide +kernel
theorem dJ7_copyOfRange_39247_7 : decode cJ7_copyOfRange_39247 7 = .ok (.if_icmp .eq 10, 3) := by decide +kernel
theorem dJ7_copyOfRange_39247_10 : decode cJ7_copyOfRange_39247 10 = .ok (.aload_n 0, 1) := by decide +kernel
theorem dJ7_copyOfRange_39247_11 : decode cJ7_copyOfRange_39247 11 = .ok (.iload_n 1, 1) := by decide +kernel
theorem dJ7_copyOfRange_39247_12 : decode cJ7_copyOfRange_39247 12 = .ok (.iload_n 2, 1) := by decide +kernel
theorem dJ7_copyOfRange_39247_13 : decode cJ7_copyOfRange_39247 13 = .ok (.invokestatic 339, 3) := by decide +kernel
theorem dJ7_copyOfRange_39247_16 : decode cJ7_copyOfRange_39247 16 = .ok (.areturn, 1) := by decide +kernel
theorem dJ7_copyOfRange_39247_17 : decode cJ7_copyOfRange_39247 17 = .ok (.aload_n 0, 1) := by decide +kernel
theorem dJ7_copyOfRange_39247_18 : decode cJ7_copyOfRange_39247 18 = .ok (.invokevirtual 310, 3) := by decide +kernel
theorem dJ7_copyOfRange_39247_21 : decode cJ7_copyOfRange_39247 21 = .ok (.checkcast 311, 3) := by decide +kernel
theorem dJ7_copyOfRange_39247_24 : decode cJ7_copyOfRange_39247 24 = .ok (.areturn, 1) := by decide +kernel
theorem dJ7_copyOfRangeByte_39247_0 : decode cJ7_copyOfRangeByte_39247 0 = .ok (.iload_n 1, 1) := by decide +kernel
theorem dJ7_copyOfRangeByte_39247_1 : decode cJ7_copyOfRangeByte_39247 1 = .ok (.iload_n 2, 1) := by decide +kernel
theorem dJ7_copyOfRangeByte_39247_2 : decode cJ7_copyOfRangeByte_39247 2 = .ok (.invokestatic 343, 3) := by decide +kernel
theorem dJ7_copyOfRangeByte_39247_5 : decode cJ7_copyOfRangeByte_39247 5 = .ok (.iload_n 2, 1) := by decide +kernel
theorem dJ7_copyOfRangeByte_39247_6 : decode cJ7_copyOfRangeByte_39247 6 = .ok (.iload_n 1, 1) := by decide +kernel
theorem dJ7_copyOfRangeByte_39247_7 : decode cJ7_copyOfRangeByte_39247 7 = .ok (.isub, 1) := by decide +kernel
theorem dJ7_copyOfRangeByte_39247_8 : decode cJ7_copyOfRangeByte_39247 8 = .ok (.istore_n 3, 1) := by decide +kernel
theorem dJ7_copyOfRangeByte_39247_9 : decode cJ7_copyOfRangeByte_39247 9 = .ok (.iload_n 3, 1) := by decide +kernel
theorem dJ7_copyOfRangeByte_39247_10 : decode cJ7_copyOfRangeByte_39247 10 = .ok (.newarray .byte, 2) := by decide +kernel
theorem dJ7_copyOfRangeByte_39247_12 : decode cJ7_copyOfRangeByte_39247 12 = .ok (.astore 4, 2) := by decide +kernel
theorem dJ7_copyOfRangeByte_39247_14 : decode cJ7_copyOfRangeByte_39247 14 = .ok (.aload_n 0, 1) := by decide +kernel
theorem dJ7_copyOfRangeByte_39247_15 : decode cJ7_copyOfRangeByte_39247 15 = .ok (.iload_n 1, 1) := by decide +kernel
theorem dJ7_copyOfRangeByte_39247_16 : decode cJ7_copyOfRangeByte_39247 16 = .ok (.aload 4, 2) := by decide +kernel
theorem dJ7_copyOfRangeByte_39247_18 : decode cJ7_copyOfRangeByte_39247 18 = .ok (.iconst 0, 1) := by decide +kernel
theorem dJ7_copyOfRangeByte_39247_19 : decode cJ7_copyOfRangeByte_39247 19 = .ok (.aload_n 0, 1) := by decide +kernel
theorem dJ7_copyOfRangeByte_39247_20 : decode cJ7_copyOfRangeByte_39247 20 = .ok (.arraylength, 1) := by decide +kernel
theorem dJ7_copyOfRangeByte_39247_21 : decode cJ7_copyOfRangeByte_39247 21 = .ok (.iload_n 1, 1) := by decide +kernel
theorem dJ7_copyOfRangeByte_39247_22 : decode cJ7_copyOfRangeByte_39247 22 = .ok (.isub, 1) := by decide +kernel
theorem dJ7_copyOfRangeByte_39247_23 : decode cJ7_copyOfRangeByte_39247 23 = .ok (.iload_n 3, 1) := by decide +kernel
theorem dJ7_copyOfRangeByte_39247_24 : decode cJ7_copyOfRangeByte_39247 24 = .ok (.invokestatic 304, 3) := by decide +kernel
theorem dJ7_copyOfRangeByte_39247_27 : decode cJ7_copyOfRangeByte_39247 27 = .ok (.invokestatic 150, 3) := by decide +kernel
theorem dJ7_copyOfRangeByte_39247_30 : decode cJ7_copyOfRangeByte_39247 30 = .ok (.aload 4, 2) := by decide +kernel
theorem dJ7_copyOfRangeByte_39247_32 : decode cJ7_copyOfRangeByte_39247 32 = .ok (.areturn, 1) := by decide +kernel
theorem dJ8_newLength_cabcc_0 : decode cJ8_newLength_cabcc 0 = .ok (.iload_n 0, 1) := by decide +kernel
theorem dJ8_newLength_cabcc_1 : decode cJ8_newLength_cabcc 1 = .ok (.iload_n 1, 1) := by decide +kernel
theorem dJ8_newLength_cabcc_2 : decode cJ8_newLength_cabcc 2 = .ok (.iload_n 2, 1) := by decide +kernel
theorem dJ8_newLength_cabcc_3 : decode cJ8_newLength_cabcc 3 = .ok (.invokestatic 194, 3) := by decide +kernel
theorem dJ8_newLength_cabcc_6 : decode cJ8_newLength_cabcc 6 = .ok (.iadd, 1) := by decide +kernel
theorem dJ8_newLength_cabcc_7 : decode cJ8_newLength_cabcc 7 = .ok (.istore_n 3, 1) := by decide +kernel
theorem dJ8_newLength_cabcc_8 : decode cJ8_newLength_cabcc 8 = .ok (.iconst 0, 1) := by decide +kernel
theorem dJ8_newLength_cabcc_9 : decode cJ8_newLength_cabcc 9 = .ok (.iload_n 3, 1) := by decide +kernel
theorem dJ8_newLength_cabcc_10 : decode cJ8_newLength_cabcc 10 = .ok (.if_icmp .ge 11, 3) := by decide +kernel
theorem dJ8_newLength_cabcc_13 : decode cJ8_newLength_cabcc 13 = .ok (.iload_n 3, 1) := by decide +kernel
theorem dJ8_newLength_cabcc_14 : decode cJ8_newLength_cabcc 14 = .ok (.ldc 200, 2) := by decide +kernel
theorem dJ8_newLength_cabcc_16 : decode cJ8_newLength_cabcc 16 = .ok (.if_icmp .gt 5, 3) := by decide +kernel
theorem dJ8_newLength_cabcc_19 : decode cJ8_newLength_cabcc 19 = .ok (.iload_n 3, 1) := by decide +kernel
theorem dJ8_newLength_cabcc_20 : decode cJ8_newLength_cabcc 20 = .ok (.ireturn, 1) := by decide +kernel
theorem dJ8_newLength_cabcc_21 : decode cJ8_newLength_cabcc 21 = .ok (.iload_n 0, 1) := by decide +kernel
theorem dJ8_newLength_cabcc_22 : decode cJ8_newLength_cabcc 22 = .ok (.iload_n 1, 1) := by decide +kernel
theorem dJ8_newLength_cabcc_23 : decode cJ8_newLength_cabcc 23 = .ok (.invokestatic 201, 3) := by decide +kernel
theorem dJ8_newLength_cabcc_26 : decode cJ8_newLength_cabcc 26 = .ok (.ireturn, 1) := by decide +kernel
theorem dJ8_hugeLength_7cf53_0 : decode cJ8_hugeLength_7cf53 0 = .ok (.iload_n 0, 1) := by decide +kernel
theorem dJ8_hugeLength_7cf53_1 : decode cJ8_hugeLength_7cf53 1 = .ok (.iload_n 1, 1) := by decide +kernel
theorem dJ8_hugeLength_7cf53_2 : decode cJ8_hugeLength_7cf53 2 = .ok (.iadd, 1) := by decide +kernel
theorem dJ8_hugeLength_7cf53_3 : decode cJ8_hugeLength_7cf53 3 = .ok (.istore_n 2, 1) := by decide +kernel
theorem dJ8_hugeLength_7cf53_4 : decode cJ8_hugeLength_7cf53 4 = .ok (.iload_n 2, 1) := by decide +kernel
theorem dJ8_hugeLength_7cf53_5 : decode cJ8_hugeLength_7cf53 5 = .ok (.ifCond .ge 44, 3) := by decide +kernel
theorem dJ8_hugeLength_7cf53_8 : decode cJ8_hugeLength_7cf53 8 = .ok (.new 204, 3) := by decide +kernel
theorem dJ8_hugeLength_7cf53_11 : decode cJ8_hugeLength_7cf53 11 = .ok (.dup, 1) := by decide +kernel
theorem dJ8_hugeLength_7cf53_12 : decode cJ8_hugeLength_7cf53 12 = .ok (.new 89, 3) := by decide +kernel
theorem dJ8_hugeLength_7cf53_15 : decode cJ8_hugeLength_7cf53 15 = .ok (.dup, 1) := by decide +kernel
theorem dJ8_hugeLength_7cf53_16 : decode cJ8_hugeLength_7cf53 16 = .ok (.invokespecial 91, 3) := by decide +kernel
theorem dJ8_hugeLength_7cf53_19 : decode cJ8_hugeLength_7cf53 19 = .ok (.ldc 206, 2) := by decide +kernel
theorem dJ8_hugeLength_7cf53_21 : decode cJ8_hugeLength_7cf53 21 = .ok (.invokevirtual 94, 3) := by decide +kernel
theorem dJ8_hugeLength_7cf53_24 : decode cJ8_hugeLength_7cf53 24 = .ok (.iload_n 0, 1) := by decide +kernel
theorem dJ8_hugeLength_7cf53_25 : decode cJ8_hugeLength_7cf53 25 = .ok (.invokevirtual 98, 3) := by decide +kernel
theorem dJ8_hugeLength_7cf53_28 : decode cJ8_hugeLength_7cf53 28 = .ok (.ldc 208, 2) := by decide +kernel
theorem dJ8_hugeLength_7cf53_30 : decode cJ8_hugeLength_7cf53 30 = .ok (.invokevirtual 94, 3) := by decide +kernel
theorem dJ8_hugeLength_7cf53_33 : decode cJ8_hugeLength_7cf53 33 = .ok (.iload_n 1, 1) := by decide +kernel
theorem dJ8_hugeLength_7cf53_34 : decode cJ8_hugeLength_7cf53 34 = .ok (.invokevirtual 98, 3) := by decide +kernel
theorem dJ8_hugeLength_7cf53_37 : decode cJ8_hugeLength_7cf53 37 = .ok (.ldc 210, 2) := by decide +kernel
theorem dJ8_hugeLength_7cf53_39 : decode cJ8_hugeLength_7cf53 39 = .ok (.invokevirtual 94, 3) := by decide +kernel
theorem dJ8_hugeLength_7cf53_42 : decode cJ8_hugeLength_7cf53 42 = .ok (.invokevirtual 101, 3) := by decide +kernel
theorem dJ8_hugeLength_7cf53_45 : decode cJ8_hugeLength_7cf53 45 = .ok (.invokespecial 212, 3) := by decide +kernel
theorem dJ8_hugeLength_7cf53_48 : decode cJ8_hugeLength_7cf53 48 = .ok (.athrow, 1) := by decide +kernel
theorem dJ8_hugeLength_7cf53_49 : decode cJ8_hugeLength_7cf53 49 = .ok (.iload_n 2, 1) := by decide +kernel
theorem dJ8_hugeLength_7cf53_50 : decode cJ8_hugeLength_7cf53 50 = .ok (.ldc 200, 2) := by decide +kernel
theorem dJ8_hugeLength_7cf53_52 : decode cJ8_hugeLength_7cf53 52 = .ok (.if_icmp .gt 6, 3) := by decide +kernel
theorem dJ8_hugeLength_7cf53_55 : decode cJ8_hugeLength_7cf53 55 = .ok (.ldc 200, 2) := by decide +kernel
theorem dJ8_hugeLength_7cf53_57 : decode cJ8_hugeLength_7cf53 57 = .ok (.ireturn, 1) := by decide +kernel
theorem dJ8_hugeLength_7cf53_58 : decode cJ8_hugeLength_7cf53 58 = .ok (.iload_n 2, 1) := by decide +kernel
theorem dJ8_hugeLength_7cf53_59 : decode cJ8_hugeLength_7cf53 59 = .ok (.ireturn, 1) := by decide +kernel
theorem dJ3_checkIndex_8e157_0 : decode cJ3_checkIndex_8e157 0 = .ok (.iload_n 0, 1) := by decide +kernel
theorem dJ3_checkIndex_8e157_1 : decode cJ3_checkIndex_8e157 1 = .ok (.ifCond .lt 8, 3) := by decide +kernel
theorem dJ3_checkIndex_8e157_4 : decode cJ3_checkIndex_8e157 4 = .ok (.iload_n 0, 1) := by decide +kernel
theorem dJ3_checkIndex_8e157_5 : decode cJ3_checkIndex_8e157 5 = .ok (.iload_n 1, 1) := by decide +kernel
theorem dJ3_checkIndex_8e157_6 : decode cJ3_checkIndex_8e157 6 = .ok (.if_icmp .lt 10, 3) := by decide +kernel
theorem dJ3_checkIndex_8e157_9 : decode cJ3_checkIndex_8e157 9 = .ok (.aload_n 2, 1) := by decide +kernel
theorem dJ3_checkIndex_8e157_10 : decode cJ3_checkIndex_8e157 10 = .ok (.iload_n 0, 1) := by decide +kernel
theorem dJ3_checkIndex_8e157_11 : decode cJ3_checkIndex_8e157 11 = .ok (.iload_n 1, 1) := by decide +kernel
theorem dJ3_checkIndex_8e157_12 : decode cJ3_checkIndex_8e157 12 = .ok (.invokestatic 95, 3) := by decide +kernel
theorem dJ3_checkIndex_8e157_15 : decode cJ3_checkIndex_8e157 15 = .ok (.athrow, 1) := by decide +kernel
theorem dJ3_checkIndex_8e157_16 : decode cJ3_checkIndex_8e157 16 = .ok (.iload_n 0, 1) := by decide +kernel
theorem dJ3_checkIndex_8e157_17 : decode cJ3_checkIndex_8e157 17 = .ok (.ireturn, 1) := by decide +kernel
theorem dJ3_checkFromToIndex_8c36e_0 : decode cJ3_checkFromToIndex_8c36e 0 = .ok (.iload_n 0, 1) := by decide +kernel
theorem dJ3_checkFromToIndex_8c36e_1 : decode cJ3_checkFromToIndex_8c36e 1 = .ok (.ifCond .lt 13, 3) := by decide +kernel
theorem dJ3_checkFromToIndex_8c36e_4 : decode cJ3_checkFromToIndex_8c36e 4 = .ok (.iload_n 0, 1) := by decide +kernel
theorem dJ3_checkFromToIndex_8c36e_5 : decode cJ3_checkFromToIndex_8c36e 5 = .ok (.iload_n 1, 1) := by decide +kernel
theorem dJ3_checkFromToIndex_8c36e_6 : decode cJ3_checkFromToIndex_8c36e 6 = .ok (.if_icmp .gt 8, 3) := by decide +kernel
theorem dJ3_checkFromToIndex_8c36e_9 : decode cJ3_checkFromToIndex_8c36e 9 = .ok (.iload_n 1, 1) := by decide +kernel
theorem dJ3_checkFromToIndex_8c36e_10 : decode cJ3_checkFromToIndex_8c36e 10 = .ok (.iload_n 2, 1) := by decide +kernel
theorem dJ3_checkFromToIndex_8c36e_11 : decode cJ3_checkFromToIndex_8c36e 11 = .ok (.if_icmp .le 11, 3) := by decide +kernel
theorem dJ3_checkFromToIndex_8c36e_14 : decode cJ3_checkFromToIndex_8c36e 14 = .ok (.aload_n 3, 1) := by decide +kernel
theorem dJ3_checkFromToIndex_8c36e_15 : decode cJ3_checkFromToIndex_8c36e 15 = .ok (.iload_n 0, 1) := by decide +kernel
theorem dJ3_checkFromToIndex_8c36e_16 : decode cJ3_checkFromToIndex_8c36e 16 = .ok (.iload_n 1, 1) := by decide +kernel
theorem dJ3_checkFromToIndex_8c36e_17 : decode cJ3_checkFromToIndex_8c36e 17 = .ok (.iload_n 2, 1) := by decide +kernel
theorem dJ3_checkFromToIndex_8c36e_18 : decode cJ3_checkFromToIndex_8c36e 18 = .ok (.invokestatic 99, 3) := by decide +kernel
theorem dJ3_checkFromToIndex_8c36e_21 : decode cJ3_checkFromToIndex_8c36e 21 = .ok (.athrow, 1) := by decide +kernel
theorem dJ3_checkFromToIndex_8c36e_22 : decode cJ3_checkFromToIndex_8c36e 22 = .ok (.iload_n 0, 1) := by decide +kernel
theorem dJ3_checkFromToIndex_8c36e_23 : decode cJ3_checkFromToIndex_8c36e 23 = .ok (.ireturn, 1) := by decide +kernel
theorem dJ3_checkFromIndexSize_8c36e_0 : decode cJ3_checkFromIndexSize_8c36e 0 = .ok (.iload_n 2, 1) := by decide +kernel
theorem dJ3_checkFromIndexSize_8c36e_1 : decode cJ3_checkFromIndexSize_8c36e 1 = .ok (.iload_n 0, 1) := by decide +kernel
theorem dJ3_checkFromIndexSize_8c36e_2 : decode cJ3_checkFromIndexSize_8c36e 2 = .ok (.ior, 1) := by decide +kernel
theorem dJ3_checkFromIndexSize_8c36e_3 : decode cJ3_checkFromIndexSize_8c36e 3 = .ok (.iload_n 1, 1) := by decide +kernel
theorem dJ3_checkFromIndexSize_8c36e_4 : decode cJ3_checkFromIndexSize_8c36e 4 = .ok (.ior, 1) := by decide +kernel
theorem dJ3_checkFromIndexSize_8c36e_5 : decode cJ3_checkFromIndexSize_8c36e 5 = .ok (.ifCond .lt 10, 3) := by decide +kernel
theorem dJ3_checkFromIndexSize_8c36e_8 : decode cJ3_checkFromIndexSize_8c36e 8 = .ok (.iload_n 1, 1) := by decide +kernel
theorem dJ3_checkFromIndexSize_8c36e_9 : decode cJ3_checkFromIndexSize_8c36e 9 = .ok (.iload_n 2, 1) := by decide +kernel
theorem dJ3_checkFromIndexSize_8c36e_10 : decode cJ3_checkFromIndexSize_8c36e 10 = .ok (.iload_n 0, 1) := by decide +kernel
theorem dJ3_checkFromIndexSize_8c36e_11 : decode cJ3_checkFromIndexSize_8c36e 11 = .ok (.isub, 1) := by decide +kernel
theorem dJ3_checkFromIndexSize_8c36e_12 : decode cJ3_checkFromIndexSize_8c36e 12 = .ok (.if_icmp .le 11, 3) := by decide +kernel
theorem dJ3_checkFromIndexSize_8c36e_15 : decode cJ3_checkFromIndexSize_8c36e 15 = .ok (.aload_n 3, 1) := by decide +kernel
theorem dJ3_checkFromIndexSize_8c36e_16 : decode cJ3_checkFromIndexSize_8c36e 16 = .ok (.iload_n 0, 1) := by decide +kernel
theorem dJ3_checkFromIndexSize_8c36e_17 : decode cJ3_checkFromIndexSize_8c36e 17 = .ok (.iload_n 1, 1) := by decide +kernel
theorem dJ3_checkFromIndexSize_8c36e_18 : decode cJ3_checkFromIndexSize_8c36e 18 = .ok (.iload_n 2, 1) := by decide +kernel
theorem dJ3_checkFromIndexSize_8c36e_19 : decode cJ3_checkFromIndexSize_8c36e 19 = .ok (.invokestatic 103, 3) := by decide +kernel
theorem dJ3_checkFromIndexSize_8c36e_22 : decode cJ3_checkFromIndexSize_8c36e 22 = .ok (.athrow, 1) := by decide +kernel
theorem dJ3_checkFromIndexSize_8c36e_23 : decode cJ3_checkFromIndexSize_8c36e 23 = .ok (.iload_n 0, 1) := by decide +kernel
theorem dJ3_checkFromIndexSize_8c36e_24 : decode cJ3_checkFromIndexSize_8c36e 24 = .ok (.ireturn, 1) := by decide +kernel
