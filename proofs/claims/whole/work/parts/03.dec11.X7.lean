theorem dX7_alone_190 : decode cX7_alone 190 = .ok (.goto 9, 3) := by decide +kernel
theorem dX7_alone_193 : decode cX7_alone 193 = .ok (.aload_n 0, 1) := by decide +kernel
theorem dX7_alone_194 : decode cX7_alone 194 = .ok (.iload_n 1, 1) := by decide +kernel
theorem dX7_alone_195 : decode cX7_alone 195 = .ok (.iconst 4, 1) := by decide +kernel
theorem dX7_alone_196 : decode cX7_alone 196 = .ok (.invokevirtual 89, 3) := by decide +kernel
theorem dX7_alone_199 : decode cX7_alone 199 = .ok (.putfield 170, 3) := by decide +kernel
theorem dX7_alone_202 : decode cX7_alone 202 = .ok (.aload_n 0, 1) := by decide +kernel
theorem dX7_alone_203 : decode cX7_alone 203 = .ok (.getfield 7, 3) := by decide +kernel
theorem dX7_alone_206 : decode cX7_alone 206 = .ok (.iload_n 1, 1) := by decide +kernel
theorem dX7_alone_207 : decode cX7_alone 207 = .ok (.iconst 4, 1) := by decide +kernel
theorem dX7_alone_208 : decode cX7_alone 208 = .ok (.invokestatic 72, 3) := by decide +kernel
theorem dX7_alone_211 : decode cX7_alone 211 = .ok (.iload_n 3, 1) := by decide +kernel
theorem dX7_alone_212 : decode cX7_alone 212 = .ok (.iastore, 1) := by decide +kernel
theorem dX7_alone_213 : decode cX7_alone 213 = .ok (.aload_n 0, 1) := by decide +kernel
theorem dX7_alone_214 : decode cX7_alone 214 = .ok (.getfield 7, 3) := by decide +kernel
theorem dX7_alone_217 : decode cX7_alone 217 = .ok (.iload_n 1, 1) := by decide +kernel
theorem dX7_alone_218 : decode cX7_alone 218 = .ok (.iconst 5, 1) := by decide +kernel
theorem dX7_alone_219 : decode cX7_alone 219 = .ok (.invokestatic 72, 3) := by decide +kernel
theorem dX7_alone_222 : decode cX7_alone 222 = .ok (.iload 4, 2) := by decide +kernel
theorem dX7_alone_224 : decode cX7_alone 224 = .ok (.iastore, 1) := by decide +kernel
theorem dX7_alone_225 : decode cX7_alone 225 = .ok (.aload_n 0, 1) := by decide +kernel
theorem dX7_alone_226 : decode cX7_alone 226 = .ok (.getfield 7, 3) := by decide +kernel
theorem dX7_alone_229 : decode cX7_alone 229 = .ok (.iload_n 1, 1) := by decide +kernel
theorem dX7_alone_230 : decode cX7_alone 230 = .ok (.bipush 6, 2) := by decide +kernel
theorem dX7_alone_232 : decode cX7_alone 232 = .ok (.invokestatic 72, 3) := by decide +kernel
theorem dX7_alone_235 : decode cX7_alone 235 = .ok (.iload 5, 2) := by decide +kernel
theorem dX7_alone_237 : decode cX7_alone 237 = .ok (.iastore, 1) := by decide +kernel
theorem dX7_alone_238 : decode cX7_alone 238 = .ok (.return_, 1) := by decide +kernel
theorem dX7_rollWrong_0 : decode cX7_rollWrong 0 = .ok (.aload_n 0, 1) := by decide +kernel
theorem dX7_rollWrong_1 : decode cX7_rollWrong 1 = .ok (.iload_n 1, 1) := by decide +kernel
theorem dX7_rollWrong_2 : decode cX7_rollWrong 2 = .ok (.invokevirtual 92, 3) := by decide +kernel
theorem dX7_rollWrong_5 : decode cX7_rollWrong 5 = .ok (.ifCond .ne 6, 3) := by decide +kernel
theorem dX7_rollWrong_8 : decode cX7_rollWrong 8 = .ok (.ldc 43, 2) := by decide +kernel
theorem dX7_rollWrong_10 : decode cX7_rollWrong 10 = .ok (.ireturn, 1) := by decide +kernel
theorem dX7_rollWrong_11 : decode cX7_rollWrong 11 = .ok (.aload_n 0, 1) := by decide +kernel
theorem dX7_rollWrong_12 : decode cX7_rollWrong 12 = .ok (.iload_n 1, 1) := by decide +kernel
theorem dX7_rollWrong_13 : decode cX7_rollWrong 13 = .ok (.invokevirtual 114, 3) := by decide +kernel
theorem dX7_rollWrong_16 : decode cX7_rollWrong 16 = .ok (.ifCond .eq 24, 3) := by decide +kernel
theorem dX7_rollWrong_19 : decode cX7_rollWrong 19 = .ok (.aload_n 0, 1) := by decide +kernel
theorem dX7_rollWrong_20 : decode cX7_rollWrong 20 = .ok (.iload_n 1, 1) := by decide +kernel
theorem dX7_rollWrong_21 : decode cX7_rollWrong 21 = .ok (.iconst 4, 1) := by decide +kernel
theorem dX7_rollWrong_22 : decode cX7_rollWrong 22 = .ok (.invokevirtual 89, 3) := by decide +kernel
theorem dX7_rollWrong_25 : decode cX7_rollWrong 25 = .ok (.bipush 30, 2) := by decide +kernel
theorem dX7_rollWrong_27 : decode cX7_rollWrong 27 = .ok (.if_icmp .eq 13, 3) := by decide +kernel
theorem dX7_rollWrong_30 : decode cX7_rollWrong 30 = .ok (.aload_n 0, 1) := by decide +kernel
theorem dX7_rollWrong_31 : decode cX7_rollWrong 31 = .ok (.sipush 200, 3) := by decide +kernel
theorem dX7_rollWrong_34 : decode cX7_rollWrong 34 = .ok (.invokevirtual 132, 3) := by decide +kernel
theorem dX7_rollWrong_37 : decode cX7_rollWrong 37 = .ok (.ifCond .eq 6, 3) := by decide +kernel
theorem dX7_rollWrong_40 : decode cX7_rollWrong 40 = .ok (.ldc 109, 2) := by decide +kernel
theorem dX7_rollWrong_42 : decode cX7_rollWrong 42 = .ok (.ireturn, 1) := by decide +kernel
theorem dX7_rollWrong_43 : decode cX7_rollWrong 43 = .ok (.aload_n 0, 1) := by decide +kernel
theorem dX7_rollWrong_44 : decode cX7_rollWrong 44 = .ok (.iload_n 1, 1) := by decide +kernel
theorem dX7_rollWrong_45 : decode cX7_rollWrong 45 = .ok (.bipush 10, 2) := by decide +kernel
theorem dX7_rollWrong_47 : decode cX7_rollWrong 47 = .ok (.invokevirtual 173, 3) := by decide +kernel
theorem dX7_rollWrong_50 : decode cX7_rollWrong 50 = .ok (.iconst 0, 1) := by decide +kernel
theorem dX7_rollWrong_51 : decode cX7_rollWrong 51 = .ok (.ireturn, 1) := by decide +kernel
theorem dX7_ends_0 : decode cX7_ends 0 = .ok (.aload_n 0, 1) := by decide +kernel
theorem dX7_ends_1 : decode cX7_ends 1 = .ok (.iload_n 1, 1) := by decide +kernel
theorem dX7_ends_2 : decode cX7_ends 2 = .ok (.invokevirtual 176, 3) := by decide +kernel
theorem dX7_ends_5 : decode cX7_ends 5 = .ok (.istore_n 2, 1) := by decide +kernel
theorem dX7_ends_6 : decode cX7_ends 6 = .ok (.iload_n 2, 1) := by decide +kernel
theorem dX7_ends_7 : decode cX7_ends 7 = .ok (.ifCond .eq 9, 3) := by decide +kernel
theorem dX7_ends_10 : decode cX7_ends 10 = .ok (.aload_n 0, 1) := by decide +kernel
theorem dX7_ends_11 : decode cX7_ends 11 = .ok (.iload_n 2, 1) := by decide +kernel
theorem dX7_ends_12 : decode cX7_ends 12 = .ok (.invokevirtual 59, 3) := by decide +kernel
theorem dX7_ends_15 : decode cX7_ends 15 = .ok (.ireturn, 1) := by decide +kernel
theorem dX7_ends_16 : decode cX7_ends 16 = .ok (.aload_n 0, 1) := by decide +kernel
theorem dX7_ends_17 : decode cX7_ends 17 = .ok (.getfield 167, 3) := by decide +kernel
theorem dX7_ends_20 : decode cX7_ends 20 = .ok (.iconst 1, 1) := by decide +kernel
theorem dX7_ends_21 : decode cX7_ends 21 = .ok (.if_icmp .ne 12, 3) := by decide +kernel
theorem dX7_ends_24 : decode cX7_ends 24 = .ok (.aload_n 0, 1) := by decide +kernel
theorem dX7_ends_25 : decode cX7_ends 25 = .ok (.ldc 157, 2) := by decide +kernel
theorem dX7_ends_27 : decode cX7_ends 27 = .ok (.invokevirtual 59, 3) := by decide +kernel
theorem dX7_ends_30 : decode cX7_ends 30 = .ok (.goto 7, 3) := by decide +kernel
theorem dX7_ends_33 : decode cX7_ends 33 = .ok (.aload_n 0, 1) := by decide +kernel
theorem dX7_ends_34 : decode cX7_ends 34 = .ok (.getfield 170, 3) := by decide +kernel
theorem dX7_ends_37 : decode cX7_ends 37 = .ok (.ireturn, 1) := by decide +kernel
theorem dX7_takes_0 : decode cX7_takes 0 = .ok (.aload_n 0, 1) := by decide +kernel
theorem dX7_takes_1 : decode cX7_takes 1 = .ok (.iload_n 1, 1) := by decide +kernel
theorem dX7_takes_2 : decode cX7_takes 2 = .ok (.invokevirtual 176, 3) := by decide +kernel
theorem dX7_takes_5 : decode cX7_takes 5 = .ok (.istore_n 2, 1) := by decide +kernel
theorem dX7_takes_6 : decode cX7_takes 6 = .ok (.iload_n 2, 1) := by decide +kernel
theorem dX7_takes_7 : decode cX7_takes 7 = .ok (.ifCond .eq 9, 3) := by decide +kernel
theorem dX7_takes_10 : decode cX7_takes 10 = .ok (.aload_n 0, 1) := by decide +kernel
theorem dX7_takes_11 : decode cX7_takes 11 = .ok (.iload_n 2, 1) := by decide +kernel
theorem dX7_takes_12 : decode cX7_takes 12 = .ok (.invokevirtual 59, 3) := by decide +kernel
theorem dX7_takes_15 : decode cX7_takes 15 = .ok (.ireturn, 1) := by decide +kernel
theorem dX7_takes_16 : decode cX7_takes 16 = .ok (.aload_n 0, 1) := by decide +kernel
theorem dX7_takes_17 : decode cX7_takes 17 = .ok (.getfield 167, 3) := by decide +kernel
theorem dX7_takes_20 : decode cX7_takes 20 = .ok (.iconst 1, 1) := by decide +kernel
theorem dX7_takes_21 : decode cX7_takes 21 = .ok (.if_icmp .ne 12, 3) := by decide +kernel
theorem dX7_takes_24 : decode cX7_takes 24 = .ok (.aload_n 0, 1) := by decide +kernel
theorem dX7_takes_25 : decode cX7_takes 25 = .ok (.ldc 157, 2) := by decide +kernel
theorem dX7_takes_27 : decode cX7_takes 27 = .ok (.invokevirtual 59, 3) := by decide +kernel
theorem dX7_takes_30 : decode cX7_takes 30 = .ok (.goto 7, 3) := by decide +kernel
theorem dX7_takes_33 : decode cX7_takes 33 = .ok (.aload_n 0, 1) := by decide +kernel
theorem dX7_takes_34 : decode cX7_takes 34 = .ok (.getfield 158, 3) := by decide +kernel
theorem dX7_takes_37 : decode cX7_takes 37 = .ok (.ireturn, 1) := by decide +kernel
theorem dX7_speed_0 : decode cX7_speed 0 = .ok (.aload_n 0, 1) := by decide +kernel
theorem dX7_speed_1 : decode cX7_speed 1 = .ok (.iload_n 1, 1) := by decide +kernel
theorem dX7_speed_2 : decode cX7_speed 2 = .ok (.invokevirtual 176, 3) := by decide +kernel
theorem dX7_speed_5 : decode cX7_speed 5 = .ok (.istore_n 2, 1) := by decide +kernel
theorem dX7_speed_6 : decode cX7_speed 6 = .ok (.iload_n 2, 1) := by decide +kernel
theorem dX7_speed_7 : decode cX7_speed 7 = .ok (.ifCond .eq 11, 3) := by decide +kernel
theorem dX7_speed_10 : decode cX7_speed 10 = .ok (.aload_n 0, 1) := by decide +kernel
theorem dX7_speed_11 : decode cX7_speed 11 = .ok (.iload_n 2, 1) := by decide +kernel
theorem dX7_speed_12 : decode cX7_speed 12 = .ok (.invokevirtual 59, 3) := by decide +kernel
theorem dX7_speed_15 : decode cX7_speed 15 = .ok (.goto 7, 3) := by decide +kernel
theorem dX7_speed_18 : decode cX7_speed 18 = .ok (.aload_n 0, 1) := by decide +kernel
theorem dX7_speed_19 : decode cX7_speed 19 = .ok (.getfield 161, 3) := by decide +kernel
theorem dX7_speed_22 : decode cX7_speed 22 = .ok (.ireturn, 1) := by decide +kernel
theorem dX7_seen_0 : decode cX7_seen 0 = .ok (.aload_n 0, 1) := by decide +kernel
theorem dX7_seen_1 : decode cX7_seen 1 = .ok (.iload_n 1, 1) := by decide +kernel
theorem dX7_seen_2 : decode cX7_seen 2 = .ok (.invokevirtual 176, 3) := by decide +kernel
theorem dX7_seen_5 : decode cX7_seen 5 = .ok (.istore_n 2, 1) := by decide +kernel
theorem dX7_seen_6 : decode cX7_seen 6 = .ok (.iload_n 2, 1) := by decide +kernel
theorem dX7_seen_7 : decode cX7_seen 7 = .ok (.ifCond .eq 11, 3) := by decide +kernel
theorem dX7_seen_10 : decode cX7_seen 10 = .ok (.aload_n 0, 1) := by decide +kernel
theorem dX7_seen_11 : decode cX7_seen 11 = .ok (.iload_n 2, 1) := by decide +kernel
theorem dX7_seen_12 : decode cX7_seen 12 = .ok (.invokevirtual 59, 3) := by decide +kernel
theorem dX7_seen_15 : decode cX7_seen 15 = .ok (.goto 7, 3) := by decide +kernel
theorem dX7_seen_18 : decode cX7_seen 18 = .ok (.aload_n 0, 1) := by decide +kernel
theorem dX7_seen_19 : decode cX7_seen 19 = .ok (.getfield 164, 3) := by decide +kernel
theorem dX7_seen_22 : decode cX7_seen 22 = .ok (.ireturn, 1) := by decide +kernel
theorem dX7_sand_0 : decode cX7_sand 0 = .ok (.iload_n 2, 1) := by decide +kernel
theorem dX7_sand_1 : decode cX7_sand 1 = .ok (.invokestatic 51, 3) := by decide +kernel
theorem dX7_sand_4 : decode cX7_sand 4 = .ok (.ifCond .ne 10, 3) := by decide +kernel
theorem dX7_sand_7 : decode cX7_sand 7 = .ok (.aload_n 0, 1) := by decide +kernel
theorem dX7_sand_8 : decode cX7_sand 8 = .ok (.ldc 43, 2) := by decide +kernel
theorem dX7_sand_10 : decode cX7_sand 10 = .ok (.invokevirtual 59, 3) := by decide +kernel
theorem dX7_sand_13 : decode cX7_sand 13 = .ok (.ireturn, 1) := by decide +kernel
theorem dX7_sand_14 : decode cX7_sand 14 = .ok (.aload_n 0, 1) := by decide +kernel
theorem dX7_sand_15 : decode cX7_sand 15 = .ok (.iload_n 1, 1) := by decide +kernel
theorem dX7_sand_16 : decode cX7_sand 16 = .ok (.invokevirtual 176, 3) := by decide +kernel
theorem dX7_sand_19 : decode cX7_sand 19 = .ok (.istore_n 3, 1) := by decide +kernel
theorem dX7_sand_20 : decode cX7_sand 20 = .ok (.iload_n 3, 1) := by decide +kernel
theorem dX7_sand_21 : decode cX7_sand 21 = .ok (.ifCond .eq 9, 3) := by decide +kernel
theorem dX7_sand_24 : decode cX7_sand 24 = .ok (.aload_n 0, 1) := by decide +kernel
theorem dX7_sand_25 : decode cX7_sand 25 = .ok (.iload_n 3, 1) := by decide +kernel
theorem dX7_sand_26 : decode cX7_sand 26 = .ok (.invokevirtual 59, 3) := by decide +kernel
theorem dX7_sand_29 : decode cX7_sand 29 = .ok (.ireturn, 1) := by decide +kernel
theorem dX7_sand_30 : decode cX7_sand 30 = .ok (.iconst (-1), 1) := by decide +kernel
theorem dX7_sand_31 : decode cX7_sand 31 = .ok (.istore 4, 2) := by decide +kernel
theorem dX7_sand_33 : decode cX7_sand 33 = .ok (.iconst 0, 1) := by decide +kernel
theorem dX7_sand_34 : decode cX7_sand 34 = .ok (.istore 5, 2) := by decide +kernel
theorem dX7_sand_36 : decode cX7_sand 36 = .ok (.iload 5, 2) := by decide +kernel
theorem dX7_sand_38 : decode cX7_sand 38 = .ok (.bipush 31, 2) := by decide +kernel
theorem dX7_sand_40 : decode cX7_sand 40 = .ok (.if_icmp .ge 79, 3) := by decide +kernel
theorem dX7_sand_43 : decode cX7_sand 43 = .ok (.iload 4, 2) := by decide +kernel
theorem dX7_sand_45 : decode cX7_sand 45 = .ok (.ifCond .ge 74, 3) := by decide +kernel
theorem dX7_sand_48 : decode cX7_sand 48 = .ok (.aload_n 0, 1) := by decide +kernel
theorem dX7_sand_49 : decode cX7_sand 49 = .ok (.getfield 7, 3) := by decide +kernel
theorem dX7_sand_52 : decode cX7_sand 52 = .ok (.bipush 36, 2) := by decide +kernel
theorem dX7_sand_54 : decode cX7_sand 54 = .ok (.iload 5, 2) := by decide +kernel
theorem dX7_sand_56 : decode cX7_sand 56 = .ok (.iadd, 1) := by decide +kernel
theorem dX7_sand_57 : decode cX7_sand 57 = .ok (.iaload, 1) := by decide +kernel
theorem dX7_sand_58 : decode cX7_sand 58 = .ok (.istore 6, 2) := by decide +kernel
theorem dX7_sand_60 : decode cX7_sand 60 = .ok (.aload_n 0, 1) := by decide +kernel
theorem dX7_sand_61 : decode cX7_sand 61 = .ok (.getfield 7, 3) := by decide +kernel
theorem dX7_sand_64 : decode cX7_sand 64 = .ok (.bipush 36, 2) := by decide +kernel
theorem dX7_sand_66 : decode cX7_sand 66 = .ok (.iload 5, 2) := by decide +kernel
theorem dX7_sand_68 : decode cX7_sand 68 = .ok (.iadd, 1) := by decide +kernel
theorem dX7_sand_69 : decode cX7_sand 69 = .ok (.iconst 1, 1) := by decide +kernel
theorem dX7_sand_70 : decode cX7_sand 70 = .ok (.iastore, 1) := by decide +kernel
theorem dX7_sand_71 : decode cX7_sand 71 = .ok (.aload_n 0, 1) := by decide +kernel
theorem dX7_sand_72 : decode cX7_sand 72 = .ok (.iload_n 1, 1) := by decide +kernel
theorem dX7_sand_73 : decode cX7_sand 73 = .ok (.bipush 10, 2) := by decide +kernel
theorem dX7_sand_75 : decode cX7_sand 75 = .ok (.invokevirtual 173, 3) := by decide +kernel
theorem dX7_sand_78 : decode cX7_sand 78 = .ok (.aload_n 0, 1) := by decide +kernel
theorem dX7_sand_79 : decode cX7_sand 79 = .ok (.getfield 7, 3) := by decide +kernel
theorem dX7_sand_82 : decode cX7_sand 82 = .ok (.bipush 36, 2) := by decide +kernel
theorem dX7_sand_84 : decode cX7_sand 84 = .ok (.iload 5, 2) := by decide +kernel
theorem dX7_sand_86 : decode cX7_sand 86 = .ok (.iadd, 1) := by decide +kernel
theorem dX7_sand_87 : decode cX7_sand 87 = .ok (.iload 6, 2) := by decide +kernel
theorem dX7_sand_89 : decode cX7_sand 89 = .ok (.iastore, 1) := by decide +kernel
theorem dX7_sand_90 : decode cX7_sand 90 = .ok (.aload_n 0, 1) := by decide +kernel
theorem dX7_sand_91 : decode cX7_sand 91 = .ok (.getfield 167, 3) := by decide +kernel
theorem dX7_sand_94 : decode cX7_sand 94 = .ok (.ifCond .ne 16, 3) := by decide +kernel
theorem dX7_sand_97 : decode cX7_sand 97 = .ok (.aload_n 0, 1) := by decide +kernel
theorem dX7_sand_98 : decode cX7_sand 98 = .ok (.getfield 170, 3) := by decide +kernel
theorem dX7_sand_101 : decode cX7_sand 101 = .ok (.iload_n 2, 1) := by decide +kernel
theorem dX7_sand_102 : decode cX7_sand 102 = .ok (.if_icmp .ne 8, 3) := by decide +kernel
theorem dX7_sand_105 : decode cX7_sand 105 = .ok (.iload 5, 2) := by decide +kernel
theorem dX7_sand_107 : decode cX7_sand 107 = .ok (.goto 4, 3) := by decide +kernel
theorem dX7_sand_110 : decode cX7_sand 110 = .ok (.iconst (-1), 1) := by decide +kernel
theorem dX7_sand_111 : decode cX7_sand 111 = .ok (.istore 4, 2) := by decide +kernel
theorem dX7_sand_113 : decode cX7_sand 113 = .ok (.iinc 5 1, 3) := by decide +kernel
theorem dX7_sand_116 : decode cX7_sand 116 = .ok (.goto (-80), 3) := by decide +kernel
theorem dX7_sand_119 : decode cX7_sand 119 = .ok (.iload 4, 2) := by decide +kernel
theorem dX7_sand_121 : decode cX7_sand 121 = .ok (.ifCond .ge 12, 3) := by decide +kernel
theorem dX7_sand_124 : decode cX7_sand 124 = .ok (.aload_n 0, 1) := by decide +kernel
theorem dX7_sand_125 : decode cX7_sand 125 = .ok (.ldc 157, 2) := by decide +kernel
theorem dX7_sand_127 : decode cX7_sand 127 = .ok (.invokevirtual 59, 3) := by decide +kernel
theorem dX7_sand_130 : decode cX7_sand 130 = .ok (.goto 5, 3) := by decide +kernel
theorem dX7_sand_133 : decode cX7_sand 133 = .ok (.iload 4, 2) := by decide +kernel
theorem dX7_sand_135 : decode cX7_sand 135 = .ok (.ireturn, 1) := by decide +kernel
theorem dX7_rollsFor_0 : decode cX7_rollsFor 0 = .ok (.aload_n 0, 1) := by decide +kernel
theorem dX7_rollsFor_1 : decode cX7_rollsFor 1 = .ok (.iload_n 1, 1) := by decide +kernel
theorem dX7_rollsFor_2 : decode cX7_rollsFor 2 = .ok (.invokevirtual 176, 3) := by decide +kernel
theorem dX7_rollsFor_5 : decode cX7_rollsFor 5 = .ok (.istore_n 2, 1) := by decide +kernel
theorem dX7_rollsFor_6 : decode cX7_rollsFor 6 = .ok (.iload_n 2, 1) := by decide +kernel
theorem dX7_rollsFor_7 : decode cX7_rollsFor 7 = .ok (.ifCond .eq 9, 3) := by decide +kernel
theorem dX7_rollsFor_10 : decode cX7_rollsFor 10 = .ok (.aload_n 0, 1) := by decide +kernel
theorem dX7_rollsFor_11 : decode cX7_rollsFor 11 = .ok (.iload_n 2, 1) := by decide +kernel
theorem dX7_rollsFor_12 : decode cX7_rollsFor 12 = .ok (.invokevirtual 59, 3) := by decide +kernel
theorem dX7_rollsFor_15 : decode cX7_rollsFor 15 = .ok (.ireturn, 1) := by decide +kernel
theorem dX7_rollsFor_16 : decode cX7_rollsFor 16 = .ok (.aload_n 0, 1) := by decide +kernel
theorem dX7_rollsFor_17 : decode cX7_rollsFor 17 = .ok (.iload_n 1, 1) := by decide +kernel
theorem dX7_rollsFor_18 : decode cX7_rollsFor 18 = .ok (.iconst 2, 1) := by decide +kernel
theorem dX7_rollsFor_19 : decode cX7_rollsFor 19 = .ok (.invokevirtual 89, 3) := by decide +kernel
theorem dX7_rollsFor_22 : decode cX7_rollsFor 22 = .ok (.istore_n 3, 1) := by decide +kernel
theorem dX7_rollsFor_23 : decode cX7_rollsFor 23 = .ok (.iconst (-1), 1) := by decide +kernel
theorem dX7_rollsFor_24 : decode cX7_rollsFor 24 = .ok (.istore 4, 2) := by decide +kernel
theorem dX7_rollsFor_26 : decode cX7_rollsFor 26 = .ok (.iconst 1, 1) := by decide +kernel
theorem dX7_rollsFor_27 : decode cX7_rollsFor 27 = .ok (.istore 5, 2) := by decide +kernel
theorem dX7_rollsFor_29 : decode cX7_rollsFor 29 = .ok (.iload 5, 2) := by decide +kernel
theorem dX7_rollsFor_31 : decode cX7_rollsFor 31 = .ok (.bipush 10, 2) := by decide +kernel
theorem dX7_rollsFor_33 : decode cX7_rollsFor 33 = .ok (.if_icmp .ge 50, 3) := by decide +kernel
theorem dX7_rollsFor_36 : decode cX7_rollsFor 36 = .ok (.iload 4, 2) := by decide +kernel
theorem dX7_rollsFor_38 : decode cX7_rollsFor 38 = .ok (.ifCond .ge 45, 3) := by decide +kernel
theorem dX7_rollsFor_41 : decode cX7_rollsFor 41 = .ok (.aload_n 0, 1) := by decide +kernel
theorem dX7_rollsFor_42 : decode cX7_rollsFor 42 = .ok (.getfield 7, 3) := by decide +kernel
theorem dX7_rollsFor_45 : decode cX7_rollsFor 45 = .ok (.iload_n 1, 1) := by decide +kernel
theorem dX7_rollsFor_46 : decode cX7_rollsFor 46 = .ok (.iconst 2, 1) := by decide +kernel
theorem dX7_rollsFor_47 : decode cX7_rollsFor 47 = .ok (.invokestatic 72, 3) := by decide +kernel
theorem dX7_rollsFor_50 : decode cX7_rollsFor 50 = .ok (.iload 5, 2) := by decide +kernel
theorem dX7_rollsFor_52 : decode cX7_rollsFor 52 = .ok (.iastore, 1) := by decide +kernel
theorem dX7_rollsFor_53 : decode cX7_rollsFor 53 = .ok (.aload_n 0, 1) := by decide +kernel
theorem dX7_rollsFor_54 : decode cX7_rollsFor 54 = .ok (.iload_n 1, 1) := by decide +kernel
theorem dX7_rollsFor_55 : decode cX7_rollsFor 55 = .ok (.bipush 10, 2) := by decide +kernel
theorem dX7_rollsFor_57 : decode cX7_rollsFor 57 = .ok (.invokevirtual 173, 3) := by decide +kernel
theorem dX7_rollsFor_60 : decode cX7_rollsFor 60 = .ok (.aload_n 0, 1) := by decide +kernel
theorem dX7_rollsFor_61 : decode cX7_rollsFor 61 = .ok (.getfield 170, 3) := by decide +kernel
theorem dX7_rollsFor_64 : decode cX7_rollsFor 64 = .ok (.bipush 30, 2) := by decide +kernel
theorem dX7_rollsFor_66 : decode cX7_rollsFor 66 = .ok (.if_icmp .ne 8, 3) := by decide +kernel
theorem dX7_rollsFor_69 : decode cX7_rollsFor 69 = .ok (.iload 5, 2) := by decide +kernel
theorem dX7_rollsFor_71 : decode cX7_rollsFor 71 = .ok (.goto 4, 3) := by decide +kernel
theorem dX7_rollsFor_74 : decode cX7_rollsFor 74 = .ok (.iconst (-1), 1) := by decide +kernel
theorem dX7_rollsFor_75 : decode cX7_rollsFor 75 = .ok (.istore 4, 2) := by decide +kernel
theorem dX7_rollsFor_77 : decode cX7_rollsFor 77 = .ok (.iinc 5 1, 3) := by decide +kernel
theorem dX7_rollsFor_80 : decode cX7_rollsFor 80 = .ok (.goto (-51), 3) := by decide +kernel
theorem dX7_rollsFor_83 : decode cX7_rollsFor 83 = .ok (.aload_n 0, 1) := by decide +kernel
theorem dX7_rollsFor_84 : decode cX7_rollsFor 84 = .ok (.getfield 7, 3) := by decide +kernel
theorem dX7_rollsFor_87 : decode cX7_rollsFor 87 = .ok (.iload_n 1, 1) := by decide +kernel
theorem dX7_rollsFor_88 : decode cX7_rollsFor 88 = .ok (.iconst 2, 1) := by decide +kernel
theorem dX7_rollsFor_89 : decode cX7_rollsFor 89 = .ok (.invokestatic 72, 3) := by decide +kernel
theorem dX7_rollsFor_92 : decode cX7_rollsFor 92 = .ok (.iload_n 3, 1) := by decide +kernel
theorem dX7_rollsFor_93 : decode cX7_rollsFor 93 = .ok (.iastore, 1) := by decide +kernel
theorem dX7_rollsFor_94 : decode cX7_rollsFor 94 = .ok (.iload 4, 2) := by decide +kernel
theorem dX7_rollsFor_96 : decode cX7_rollsFor 96 = .ok (.ifCond .ge 12, 3) := by decide +kernel
theorem dX7_rollsFor_99 : decode cX7_rollsFor 99 = .ok (.aload_n 0, 1) := by decide +kernel
theorem dX7_rollsFor_100 : decode cX7_rollsFor 100 = .ok (.ldc 157, 2) := by decide +kernel
theorem dX7_rollsFor_102 : decode cX7_rollsFor 102 = .ok (.invokevirtual 59, 3) := by decide +kernel
theorem dX7_rollsFor_105 : decode cX7_rollsFor 105 = .ok (.goto 5, 3) := by decide +kernel
theorem dX7_rollsFor_108 : decode cX7_rollsFor 108 = .ok (.iload 4, 2) := by decide +kernel
theorem dX7_rollsFor_110 : decode cX7_rollsFor 110 = .ok (.ireturn, 1) := by decide +kernel
theorem dX7_matters_0 : decode cX7_matters 0 = .ok (.aload_n 0, 1) := by decide +kernel
theorem dX7_matters_1 : decode cX7_matters 1 = .ok (.iload_n 1, 1) := by decide +kernel
theorem dX7_matters_2 : decode cX7_matters 2 = .ok (.invokevirtual 176, 3) := by decide +kernel
theorem dX7_matters_5 : decode cX7_matters 5 = .ok (.istore_n 2, 1) := by decide +kernel
theorem dX7_matters_6 : decode cX7_matters 6 = .ok (.iload_n 2, 1) := by decide +kernel
theorem dX7_matters_7 : decode cX7_matters 7 = .ok (.ifCond .eq 9, 3) := by decide +kernel
theorem dX7_matters_10 : decode cX7_matters 10 = .ok (.aload_n 0, 1) := by decide +kernel
theorem dX7_matters_11 : decode cX7_matters 11 = .ok (.iload_n 2, 1) := by decide +kernel
theorem dX7_matters_12 : decode cX7_matters 12 = .ok (.invokevirtual 59, 3) := by decide +kernel
theorem dX7_matters_15 : decode cX7_matters 15 = .ok (.ireturn, 1) := by decide +kernel
theorem dX7_matters_16 : decode cX7_matters 16 = .ok (.aload_n 0, 1) := by decide +kernel
theorem dX7_matters_17 : decode cX7_matters 17 = .ok (.getfield 170, 3) := by decide +kernel
theorem dX7_matters_20 : decode cX7_matters 20 = .ok (.istore_n 3, 1) := by decide +kernel
theorem dX7_matters_21 : decode cX7_matters 21 = .ok (.iconst 0, 1) := by decide +kernel
theorem dX7_matters_22 : decode cX7_matters 22 = .ok (.istore 4, 2) := by decide +kernel
theorem dX7_matters_24 : decode cX7_matters 24 = .ok (.iconst 0, 1) := by decide +kernel
theorem dX7_matters_25 : decode cX7_matters 25 = .ok (.istore 5, 2) := by decide +kernel
theorem dX7_matters_27 : decode cX7_matters 27 = .ok (.iload 5, 2) := by decide +kernel
theorem dX7_matters_29 : decode cX7_matters 29 = .ok (.bipush 31, 2) := by decide +kernel
theorem dX7_matters_31 : decode cX7_matters 31 = .ok (.if_icmp .ge 72, 3) := by decide +kernel
theorem dX7_matters_34 : decode cX7_matters 34 = .ok (.aload_n 0, 1) := by decide +kernel
theorem dX7_matters_35 : decode cX7_matters 35 = .ok (.getfield 7, 3) := by decide +kernel
theorem dX7_matters_38 : decode cX7_matters 38 = .ok (.bipush 36, 2) := by decide +kernel
theorem dX7_matters_40 : decode cX7_matters 40 = .ok (.iload 5, 2) := by decide +kernel
theorem dX7_matters_42 : decode cX7_matters 42 = .ok (.iadd, 1) := by decide +kernel
theorem dX7_matters_43 : decode cX7_matters 43 = .ok (.iaload, 1) := by decide +kernel
theorem dX7_matters_44 : decode cX7_matters 44 = .ok (.istore 6, 2) := by decide +kernel
theorem dX7_matters_46 : decode cX7_matters 46 = .ok (.aload_n 0, 1) := by decide +kernel
theorem dX7_matters_47 : decode cX7_matters 47 = .ok (.getfield 7, 3) := by decide +kernel
theorem dX7_matters_50 : decode cX7_matters 50 = .ok (.bipush 36, 2) := by decide +kernel
theorem dX7_matters_52 : decode cX7_matters 52 = .ok (.iload 5, 2) := by decide +kernel
theorem dX7_matters_54 : decode cX7_matters 54 = .ok (.iadd, 1) := by decide +kernel
theorem dX7_matters_55 : decode cX7_matters 55 = .ok (.iconst 0, 1) := by decide +kernel
theorem dX7_matters_56 : decode cX7_matters 56 = .ok (.iastore, 1) := by decide +kernel
theorem dX7_matters_57 : decode cX7_matters 57 = .ok (.aload_n 0, 1) := by decide +kernel
theorem dX7_matters_58 : decode cX7_matters 58 = .ok (.iload_n 1, 1) := by decide +kernel
theorem dX7_matters_59 : decode cX7_matters 59 = .ok (.bipush 10, 2) := by decide +kernel
theorem dX7_matters_61 : decode cX7_matters 61 = .ok (.invokevirtual 173, 3) := by decide +kernel
theorem dX7_matters_64 : decode cX7_matters 64 = .ok (.aload_n 0, 1) := by decide +kernel
theorem dX7_matters_65 : decode cX7_matters 65 = .ok (.getfield 7, 3) := by decide +kernel
theorem dX7_matters_68 : decode cX7_matters 68 = .ok (.bipush 36, 2) := by decide +kernel
theorem dX7_matters_70 : decode cX7_matters 70 = .ok (.iload 5, 2) := by decide +kernel
theorem dX7_matters_72 : decode cX7_matters 72 = .ok (.iadd, 1) := by decide +kernel
theorem dX7_matters_73 : decode cX7_matters 73 = .ok (.iload 6, 2) := by decide +kernel
theorem dX7_matters_75 : decode cX7_matters 75 = .ok (.iastore, 1) := by decide +kernel
theorem dX7_matters_76 : decode cX7_matters 76 = .ok (.iload 4, 2) := by decide +kernel
theorem dX7_matters_78 : decode cX7_matters 78 = .ok (.aload_n 0, 1) := by decide +kernel
theorem dX7_matters_79 : decode cX7_matters 79 = .ok (.getfield 170, 3) := by decide +kernel
theorem dX7_matters_82 : decode cX7_matters 82 = .ok (.iload_n 3, 1) := by decide +kernel
theorem dX7_matters_83 : decode cX7_matters 83 = .ok (.if_icmp .eq 10, 3) := by decide +kernel
theorem dX7_matters_86 : decode cX7_matters 86 = .ok (.iconst 1, 1) := by decide +kernel
theorem dX7_matters_87 : decode cX7_matters 87 = .ok (.iload 5, 2) := by decide +kernel
theorem dX7_matters_89 : decode cX7_matters 89 = .ok (.ishl, 1) := by decide +kernel
theorem dX7_matters_90 : decode cX7_matters 90 = .ok (.goto 4, 3) := by decide +kernel
theorem dX7_matters_93 : decode cX7_matters 93 = .ok (.iconst 0, 1) := by decide +kernel
theorem dX7_matters_94 : decode cX7_matters 94 = .ok (.ior, 1) := by decide +kernel
theorem dX7_matters_95 : decode cX7_matters 95 = .ok (.istore 4, 2) := by decide +kernel
theorem dX7_matters_97 : decode cX7_matters 97 = .ok (.iinc 5 1, 3) := by decide +kernel
theorem dX7_matters_100 : decode cX7_matters 100 = .ok (.goto (-73), 3) := by decide +kernel
theorem dX7_matters_103 : decode cX7_matters 103 = .ok (.iload 4, 2) := by decide +kernel
theorem dX7_matters_105 : decode cX7_matters 105 = .ok (.ireturn, 1) := by decide +kernel
theorem dX7_kindFor_0 : decode cX7_kindFor 0 = .ok (.aload_n 0, 1) := by decide +kernel
theorem dX7_kindFor_1 : decode cX7_kindFor 1 = .ok (.iload_n 1, 1) := by decide +kernel
theorem dX7_kindFor_2 : decode cX7_kindFor 2 = .ok (.invokevirtual 176, 3) := by decide +kernel
theorem dX7_kindFor_5 : decode cX7_kindFor 5 = .ok (.istore_n 2, 1) := by decide +kernel
theorem dX7_kindFor_6 : decode cX7_kindFor 6 = .ok (.iload_n 2, 1) := by decide +kernel
theorem dX7_kindFor_7 : decode cX7_kindFor 7 = .ok (.ifCond .eq 9, 3) := by decide +kernel
theorem dX7_kindFor_10 : decode cX7_kindFor 10 = .ok (.aload_n 0, 1) := by decide +kernel
theorem dX7_kindFor_11 : decode cX7_kindFor 11 = .ok (.iload_n 2, 1) := by decide +kernel
theorem dX7_kindFor_12 : decode cX7_kindFor 12 = .ok (.invokevirtual 59, 3) := by decide +kernel
theorem dX7_kindFor_15 : decode cX7_kindFor 15 = .ok (.ireturn, 1) := by decide +kernel
theorem dX7_kindFor_16 : decode cX7_kindFor 16 = .ok (.aload_n 0, 1) := by decide +kernel
theorem dX7_kindFor_17 : decode cX7_kindFor 17 = .ok (.iload_n 1, 1) := by decide +kernel
theorem dX7_kindFor_18 : decode cX7_kindFor 18 = .ok (.iconst 0, 1) := by decide +kernel
theorem dX7_kindFor_19 : decode cX7_kindFor 19 = .ok (.invokevirtual 89, 3) := by decide +kernel
theorem dX7_kindFor_22 : decode cX7_kindFor 22 = .ok (.istore_n 3, 1) := by decide +kernel
theorem dX7_kindFor_23 : decode cX7_kindFor 23 = .ok (.iconst (-1), 1) := by decide +kernel
theorem dX7_kindFor_24 : decode cX7_kindFor 24 = .ok (.istore 4, 2) := by decide +kernel
theorem dX7_kindFor_26 : decode cX7_kindFor 26 = .ok (.iconst 0, 1) := by decide +kernel
theorem dX7_kindFor_27 : decode cX7_kindFor 27 = .ok (.istore 5, 2) := by decide +kernel
theorem dX7_kindFor_29 : decode cX7_kindFor 29 = .ok (.iconst 0, 1) := by decide +kernel
theorem dX7_kindFor_30 : decode cX7_kindFor 30 = .ok (.istore 6, 2) := by decide +kernel
theorem dX7_kindFor_32 : decode cX7_kindFor 32 = .ok (.iload 6, 2) := by decide +kernel
theorem dX7_kindFor_34 : decode cX7_kindFor 34 = .ok (.bipush 7, 2) := by decide +kernel
theorem dX7_kindFor_36 : decode cX7_kindFor 36 = .ok (.if_icmp .ge 52, 3) := by decide +kernel
theorem dX7_kindFor_39 : decode cX7_kindFor 39 = .ok (.aload_n 0, 1) := by decide +kernel
theorem dX7_kindFor_40 : decode cX7_kindFor 40 = .ok (.getfield 7, 3) := by decide +kernel
theorem dX7_kindFor_43 : decode cX7_kindFor 43 = .ok (.iload_n 1, 1) := by decide +kernel
theorem dX7_kindFor_44 : decode cX7_kindFor 44 = .ok (.iconst 0, 1) := by decide +kernel
theorem dX7_kindFor_45 : decode cX7_kindFor 45 = .ok (.invokestatic 72, 3) := by decide +kernel
theorem dX7_kindFor_48 : decode cX7_kindFor 48 = .ok (.iload 6, 2) := by decide +kernel
theorem dX7_kindFor_50 : decode cX7_kindFor 50 = .ok (.iastore, 1) := by decide +kernel
theorem dX7_kindFor_51 : decode cX7_kindFor 51 = .ok (.aload_n 0, 1) := by decide +kernel
theorem dX7_kindFor_52 : decode cX7_kindFor 52 = .ok (.iload_n 1, 1) := by decide +kernel
theorem dX7_kindFor_53 : decode cX7_kindFor 53 = .ok (.bipush 10, 2) := by decide +kernel
theorem dX7_kindFor_55 : decode cX7_kindFor 55 = .ok (.invokevirtual 173, 3) := by decide +kernel
theorem dX7_kindFor_58 : decode cX7_kindFor 58 = .ok (.iload 4, 2) := by decide +kernel
theorem dX7_kindFor_60 : decode cX7_kindFor 60 = .ok (.ifCond .lt 12, 3) := by decide +kernel
theorem dX7_kindFor_63 : decode cX7_kindFor 63 = .ok (.aload_n 0, 1) := by decide +kernel
theorem dX7_kindFor_64 : decode cX7_kindFor 64 = .ok (.getfield 170, 3) := by decide +kernel
theorem dX7_kindFor_67 : decode cX7_kindFor 67 = .ok (.iload 5, 2) := by decide +kernel
theorem dX7_kindFor_69 : decode cX7_kindFor 69 = .ok (.if_icmp .le 13, 3) := by decide +kernel
theorem dX7_kindFor_72 : decode cX7_kindFor 72 = .ok (.iload 6, 2) := by decide +kernel
theorem dX7_kindFor_74 : decode cX7_kindFor 74 = .ok (.istore 4, 2) := by decide +kernel
theorem dX7_kindFor_76 : decode cX7_kindFor 76 = .ok (.aload_n 0, 1) := by decide +kernel
theorem dX7_kindFor_77 : decode cX7_kindFor 77 = .ok (.getfield 170, 3) := by decide +kernel
theorem dX7_kindFor_80 : decode cX7_kindFor 80 = .ok (.istore 5, 2) := by decide +kernel
theorem dX7_kindFor_82 : decode cX7_kindFor 82 = .ok (.iinc 6 1, 3) := by decide +kernel
theorem dX7_kindFor_85 : decode cX7_kindFor 85 = .ok (.goto (-53), 3) := by decide +kernel
theorem dX7_kindFor_88 : decode cX7_kindFor 88 = .ok (.aload_n 0, 1) := by decide +kernel
theorem dX7_kindFor_89 : decode cX7_kindFor 89 = .ok (.getfield 7, 3) := by decide +kernel
theorem dX7_kindFor_92 : decode cX7_kindFor 92 = .ok (.iload_n 1, 1) := by decide +kernel
theorem dX7_kindFor_93 : decode cX7_kindFor 93 = .ok (.iconst 0, 1) := by decide +kernel
theorem dX7_kindFor_94 : decode cX7_kindFor 94 = .ok (.invokestatic 72, 3) := by decide +kernel
theorem dX7_kindFor_97 : decode cX7_kindFor 97 = .ok (.iload_n 3, 1) := by decide +kernel
theorem dX7_kindFor_98 : decode cX7_kindFor 98 = .ok (.iastore, 1) := by decide +kernel
theorem dX7_kindFor_99 : decode cX7_kindFor 99 = .ok (.iload 4, 2) := by decide +kernel
theorem dX7_kindFor_101 : decode cX7_kindFor 101 = .ok (.ireturn, 1) := by decide +kernel
theorem dX7_isQuiet_0 : decode cX7_isQuiet 0 = .ok (.iconst 1, 1) := by decide +kernel
theorem dX7_isQuiet_1 : decode cX7_isQuiet 1 = .ok (.istore_n 2, 1) := by decide +kernel
theorem dX7_isQuiet_2 : decode cX7_isQuiet 2 = .ok (.iconst 0, 1) := by decide +kernel
theorem dX7_isQuiet_3 : decode cX7_isQuiet 3 = .ok (.istore_n 3, 1) := by decide +kernel
theorem dX7_isQuiet_4 : decode cX7_isQuiet 4 = .ok (.iload_n 3, 1) := by decide +kernel
theorem dX7_isQuiet_5 : decode cX7_isQuiet 5 = .ok (.iload_n 1, 1) := by decide +kernel
theorem dX7_isQuiet_6 : decode cX7_isQuiet 6 = .ok (.if_icmp .ge 30, 3) := by decide +kernel
theorem dX7_isQuiet_9 : decode cX7_isQuiet 9 = .ok (.iload_n 2, 1) := by decide +kernel
theorem dX7_isQuiet_10 : decode cX7_isQuiet 10 = .ok (.ifCond .eq 26, 3) := by decide +kernel
theorem dX7_isQuiet_13 : decode cX7_isQuiet 13 = .ok (.aload_n 0, 1) := by decide +kernel
theorem dX7_isQuiet_14 : decode cX7_isQuiet 14 = .ok (.invokevirtual 135, 3) := by decide +kernel
theorem dX7_isQuiet_17 : decode cX7_isQuiet 17 = .ok (.aload_n 0, 1) := by decide +kernel
theorem dX7_isQuiet_18 : decode cX7_isQuiet 18 = .ok (.getfield 117, 3) := by decide +kernel
theorem dX7_isQuiet_21 : decode cX7_isQuiet 21 = .ok (.ifCond .ne 7, 3) := by decide +kernel
theorem dX7_isQuiet_24 : decode cX7_isQuiet 24 = .ok (.iconst 1, 1) := by decide +kernel
theorem dX7_isQuiet_25 : decode cX7_isQuiet 25 = .ok (.goto 4, 3) := by decide +kernel
theorem dX7_isQuiet_28 : decode cX7_isQuiet 28 = .ok (.iconst 0, 1) := by decide +kernel
theorem dX7_isQuiet_29 : decode cX7_isQuiet 29 = .ok (.istore_n 2, 1) := by decide +kernel
theorem dX7_isQuiet_30 : decode cX7_isQuiet 30 = .ok (.iinc 3 1, 3) := by decide +kernel
theorem dX7_isQuiet_33 : decode cX7_isQuiet 33 = .ok (.goto (-29), 3) := by decide +kernel
theorem dX7_isQuiet_36 : decode cX7_isQuiet 36 = .ok (.iload_n 2, 1) := by decide +kernel
theorem dX7_isQuiet_37 : decode cX7_isQuiet 37 = .ok (.ireturn, 1) := by decide +kernel
theorem dX7_wait_0 : decode cX7_wait 0 = .ok (.aload_n 0, 1) := by decide +kernel
theorem dX7_wait_1 : decode cX7_wait 1 = .ok (.iload_n 1, 1) := by decide +kernel
theorem dX7_wait_2 : decode cX7_wait 2 = .ok (.invokevirtual 92, 3) := by decide +kernel
theorem dX7_wait_5 : decode cX7_wait 5 = .ok (.ifCond .ne 10, 3) := by decide +kernel
theorem dX7_wait_8 : decode cX7_wait 8 = .ok (.aload_n 0, 1) := by decide +kernel
theorem dX7_wait_9 : decode cX7_wait 9 = .ok (.ldc 43, 2) := by decide +kernel
theorem dX7_wait_11 : decode cX7_wait 11 = .ok (.invokevirtual 59, 3) := by decide +kernel
theorem dX7_wait_14 : decode cX7_wait 14 = .ok (.ireturn, 1) := by decide +kernel
theorem dX7_wait_15 : decode cX7_wait 15 = .ok (.aload_n 0, 1) := by decide +kernel
theorem dX7_wait_16 : decode cX7_wait 16 = .ok (.iload_n 1, 1) := by decide +kernel
theorem dX7_wait_17 : decode cX7_wait 17 = .ok (.invokevirtual 106, 3) := by decide +kernel
theorem dX7_wait_20 : decode cX7_wait 20 = .ok (.ifCond .eq 13, 3) := by decide +kernel
theorem dX7_wait_23 : decode cX7_wait 23 = .ok (.aload_n 0, 1) := by decide +kernel
theorem dX7_wait_24 : decode cX7_wait 24 = .ok (.sipush 259, 3) := by decide +kernel
theorem dX7_wait_27 : decode cX7_wait 27 = .ok (.invokevirtual 132, 3) := by decide +kernel
theorem dX7_wait_30 : decode cX7_wait 30 = .ok (.ifCond .eq 10, 3) := by decide +kernel
theorem dX7_wait_33 : decode cX7_wait 33 = .ok (.aload_n 0, 1) := by decide +kernel
theorem dX7_wait_34 : decode cX7_wait 34 = .ok (.ldc 109, 2) := by decide +kernel
theorem dX7_wait_36 : decode cX7_wait 36 = .ok (.invokevirtual 59, 3) := by decide +kernel
theorem dX7_wait_39 : decode cX7_wait 39 = .ok (.ireturn, 1) := by decide +kernel
theorem dX7_wait_40 : decode cX7_wait 40 = .ok (.aload_n 0, 1) := by decide +kernel
theorem dX7_wait_41 : decode cX7_wait 41 = .ok (.invokevirtual 148, 3) := by decide +kernel
theorem dX7_wait_44 : decode cX7_wait 44 = .ok (.iconst (-1), 1) := by decide +kernel
theorem dX7_wait_45 : decode cX7_wait 45 = .ok (.istore_n 2, 1) := by decide +kernel
theorem dX7_wait_46 : decode cX7_wait 46 = .ok (.iconst 0, 1) := by decide +kernel
theorem dX7_wait_47 : decode cX7_wait 47 = .ok (.istore_n 3, 1) := by decide +kernel
theorem dX7_wait_48 : decode cX7_wait 48 = .ok (.iload_n 3, 1) := by decide +kernel
theorem dX7_wait_49 : decode cX7_wait 49 = .ok (.bipush 60, 2) := by decide +kernel
theorem dX7_wait_51 : decode cX7_wait 51 = .ok (.if_icmp .ge 59, 3) := by decide +kernel
theorem dX7_wait_54 : decode cX7_wait 54 = .ok (.iload_n 2, 1) := by decide +kernel
theorem dX7_wait_55 : decode cX7_wait 55 = .ok (.ifCond .ge 55, 3) := by decide +kernel
theorem dX7_wait_58 : decode cX7_wait 58 = .ok (.iconst 0, 1) := by decide +kernel
theorem dX7_wait_59 : decode cX7_wait 59 = .ok (.istore 4, 2) := by decide +kernel
theorem dX7_wait_61 : decode cX7_wait 61 = .ok (.iload 4, 2) := by decide +kernel
theorem dX7_wait_63 : decode cX7_wait 63 = .ok (.iload_n 3, 1) := by decide +kernel
theorem dX7_wait_64 : decode cX7_wait 64 = .ok (.if_icmp .ge 13, 3) := by decide +kernel
theorem dX7_wait_67 : decode cX7_wait 67 = .ok (.aload_n 0, 1) := by decide +kernel
theorem dX7_wait_68 : decode cX7_wait 68 = .ok (.invokevirtual 135, 3) := by decide +kernel
theorem dX7_wait_71 : decode cX7_wait 71 = .ok (.iinc 4 1, 3) := by decide +kernel
theorem dX7_wait_74 : decode cX7_wait 74 = .ok (.goto (-13), 3) := by decide +kernel
theorem dX7_wait_77 : decode cX7_wait 77 = .ok (.aload_n 0, 1) := by decide +kernel
theorem dX7_wait_78 : decode cX7_wait 78 = .ok (.iload_n 1, 1) := by decide +kernel
theorem dX7_wait_79 : decode cX7_wait 79 = .ok (.bipush 10, 2) := by decide +kernel
theorem dX7_wait_81 : decode cX7_wait 81 = .ok (.invokevirtual 110, 3) := by decide +kernel
theorem dX7_wait_84 : decode cX7_wait 84 = .ok (.aload_n 0, 1) := by decide +kernel
theorem dX7_wait_85 : decode cX7_wait 85 = .ok (.sipush 200, 3) := by decide +kernel
theorem dX7_wait_88 : decode cX7_wait 88 = .ok (.invokevirtual 179, 3) := by decide +kernel
theorem dX7_wait_91 : decode cX7_wait 91 = .ok (.ifCond .eq 7, 3) := by decide +kernel
theorem dX7_wait_94 : decode cX7_wait 94 = .ok (.iload_n 3, 1) := by decide +kernel
theorem dX7_wait_95 : decode cX7_wait 95 = .ok (.goto 4, 3) := by decide +kernel
theorem dX7_wait_98 : decode cX7_wait 98 = .ok (.iconst (-1), 1) := by decide +kernel
theorem dX7_wait_99 : decode cX7_wait 99 = .ok (.istore_n 2, 1) := by decide +kernel
theorem dX7_wait_100 : decode cX7_wait 100 = .ok (.aload_n 0, 1) := by decide +kernel
theorem dX7_wait_101 : decode cX7_wait 101 = .ok (.invokevirtual 154, 3) := by decide +kernel
theorem dX7_wait_104 : decode cX7_wait 104 = .ok (.iinc 3 1, 3) := by decide +kernel
theorem dX7_wait_107 : decode cX7_wait 107 = .ok (.goto (-59), 3) := by decide +kernel
theorem dX7_wait_110 : decode cX7_wait 110 = .ok (.iload_n 2, 1) := by decide +kernel
theorem dX7_wait_111 : decode cX7_wait 111 = .ok (.ifCond .ge 12, 3) := by decide +kernel
theorem dX7_wait_114 : decode cX7_wait 114 = .ok (.aload_n 0, 1) := by decide +kernel
theorem dX7_wait_115 : decode cX7_wait 115 = .ok (.ldc 157, 2) := by decide +kernel
theorem dX7_wait_117 : decode cX7_wait 117 = .ok (.invokevirtual 59, 3) := by decide +kernel
theorem dX7_wait_120 : decode cX7_wait 120 = .ok (.goto 4, 3) := by decide +kernel
theorem dX7_wait_123 : decode cX7_wait 123 = .ok (.iload_n 2, 1) := by decide +kernel
theorem dX7_wait_124 : decode cX7_wait 124 = .ok (.ireturn, 1) := by decide +kernel
theorem dX7_isRolling_0 : decode cX7_isRolling 0 = .ok (.aload_n 0, 1) := by decide +kernel
theorem dX7_isRolling_1 : decode cX7_isRolling 1 = .ok (.iconst 1, 1) := by decide +kernel
theorem dX7_isRolling_2 : decode cX7_isRolling 2 = .ok (.invokevirtual 140, 3) := by decide +kernel
theorem dX7_isRolling_5 : decode cX7_isRolling 5 = .ok (.ifCond .eq 7, 3) := by decide +kernel
theorem dX7_isRolling_8 : decode cX7_isRolling 8 = .ok (.iconst 1, 1) := by decide +kernel
theorem dX7_isRolling_9 : decode cX7_isRolling 9 = .ok (.goto 4, 3) := by decide +kernel
theorem dX7_isRolling_12 : decode cX7_isRolling 12 = .ok (.iconst 0, 1) := by decide +kernel
theorem dX7_isRolling_13 : decode cX7_isRolling 13 = .ok (.ireturn, 1) := by decide +kernel
theorem dX7_behind_0 : decode cX7_behind 0 = .ok (.aload_n 0, 1) := by decide +kernel
theorem dX7_behind_1 : decode cX7_behind 1 = .ok (.iload_n 1, 1) := by decide +kernel
theorem dX7_behind_2 : decode cX7_behind 2 = .ok (.invokevirtual 92, 3) := by decide +kernel
theorem dX7_behind_5 : decode cX7_behind 5 = .ok (.ifCond .eq 16, 3) := by decide +kernel
theorem dX7_behind_8 : decode cX7_behind 8 = .ok (.aload_n 0, 1) := by decide +kernel
theorem dX7_behind_9 : decode cX7_behind 9 = .ok (.iload_n 2, 1) := by decide +kernel
theorem dX7_behind_10 : decode cX7_behind 10 = .ok (.invokevirtual 92, 3) := by decide +kernel
theorem dX7_behind_13 : decode cX7_behind 13 = .ok (.ifCond .eq 8, 3) := by decide +kernel
theorem dX7_behind_16 : decode cX7_behind 16 = .ok (.iload_n 1, 1) := by decide +kernel
theorem dX7_behind_17 : decode cX7_behind 17 = .ok (.iload_n 2, 1) := by decide +kernel
theorem dX7_behind_18 : decode cX7_behind 18 = .ok (.if_icmp .ne 10, 3) := by decide +kernel
theorem dX7_behind_21 : decode cX7_behind 21 = .ok (.aload_n 0, 1) := by decide +kernel
theorem dX7_behind_22 : decode cX7_behind 22 = .ok (.ldc 43, 2) := by decide +kernel
theorem dX7_behind_24 : decode cX7_behind 24 = .ok (.invokevirtual 59, 3) := by decide +kernel
theorem dX7_behind_27 : decode cX7_behind 27 = .ok (.ireturn, 1) := by decide +kernel
theorem dX7_behind_28 : decode cX7_behind 28 = .ok (.aload_n 0, 1) := by decide +kernel
theorem dX7_behind_29 : decode cX7_behind 29 = .ok (.iload_n 1, 1) := by decide +kernel
theorem dX7_behind_30 : decode cX7_behind 30 = .ok (.invokevirtual 106, 3) := by decide +kernel
theorem dX7_behind_33 : decode cX7_behind 33 = .ok (.ifCond .eq 36, 3) := by decide +kernel
theorem dX7_behind_36 : decode cX7_behind 36 = .ok (.aload_n 0, 1) := by decide +kernel
theorem dX7_behind_37 : decode cX7_behind 37 = .ok (.iload_n 2, 1) := by decide +kernel
theorem dX7_behind_38 : decode cX7_behind 38 = .ok (.invokevirtual 106, 3) := by decide +kernel
theorem dX7_behind_41 : decode cX7_behind 41 = .ok (.ifCond .eq 28, 3) := by decide +kernel
theorem dX7_behind_44 : decode cX7_behind 44 = .ok (.aload_n 0, 1) := by decide +kernel
theorem dX7_behind_45 : decode cX7_behind 45 = .ok (.iload_n 1, 1) := by decide +kernel
theorem dX7_behind_46 : decode cX7_behind 46 = .ok (.iconst 4, 1) := by decide +kernel
theorem dX7_behind_47 : decode cX7_behind 47 = .ok (.invokevirtual 89, 3) := by decide +kernel
theorem dX7_behind_50 : decode cX7_behind 50 = .ok (.aload_n 0, 1) := by decide +kernel
theorem dX7_behind_51 : decode cX7_behind 51 = .ok (.iload_n 2, 1) := by decide +kernel
theorem dX7_behind_52 : decode cX7_behind 52 = .ok (.iconst 4, 1) := by decide +kernel
theorem dX7_behind_53 : decode cX7_behind 53 = .ok (.invokevirtual 89, 3) := by decide +kernel
theorem dX7_behind_56 : decode cX7_behind 56 = .ok (.if_icmp .ne 13, 3) := by decide +kernel
theorem dX7_behind_59 : decode cX7_behind 59 = .ok (.aload_n 0, 1) := by decide +kernel
theorem dX7_behind_60 : decode cX7_behind 60 = .ok (.sipush 259, 3) := by decide +kernel
theorem dX7_behind_63 : decode cX7_behind 63 = .ok (.invokevirtual 132, 3) := by decide +kernel
theorem dX7_behind_66 : decode cX7_behind 66 = .ok (.ifCond .eq 10, 3) := by decide +kernel
theorem dX7_behind_69 : decode cX7_behind 69 = .ok (.aload_n 0, 1) := by decide +kernel
theorem dX7_behind_70 : decode cX7_behind 70 = .ok (.ldc 109, 2) := by decide +kernel
theorem dX7_behind_72 : decode cX7_behind 72 = .ok (.invokevirtual 59, 3) := by decide +kernel
theorem dX7_behind_75 : decode cX7_behind 75 = .ok (.ireturn, 1) := by decide +kernel
theorem dX7_behind_76 : decode cX7_behind 76 = .ok (.aload_n 0, 1) := by decide +kernel
theorem dX7_behind_77 : decode cX7_behind 77 = .ok (.invokevirtual 148, 3) := by decide +kernel
theorem dX7_behind_80 : decode cX7_behind 80 = .ok (.iconst (-1), 1) := by decide +kernel
theorem dX7_behind_81 : decode cX7_behind 81 = .ok (.istore_n 3, 1) := by decide +kernel
theorem dX7_behind_82 : decode cX7_behind 82 = .ok (.iconst 1, 1) := by decide +kernel
theorem dX7_behind_83 : decode cX7_behind 83 = .ok (.istore 4, 2) := by decide +kernel
theorem dX7_behind_85 : decode cX7_behind 85 = .ok (.iload 4, 2) := by decide +kernel
theorem dX7_behind_87 : decode cX7_behind 87 = .ok (.bipush 60, 2) := by decide +kernel
theorem dX7_behind_89 : decode cX7_behind 89 = .ok (.if_icmp .ge 198, 3) := by decide +kernel
theorem dX7_behind_92 : decode cX7_behind 92 = .ok (.iload_n 3, 1) := by decide +kernel
theorem dX7_behind_93 : decode cX7_behind 93 = .ok (.ifCond .ge 194, 3) := by decide +kernel
theorem dX7_behind_96 : decode cX7_behind 96 = .ok (.iconst 0, 1) := by decide +kernel
theorem dX7_behind_97 : decode cX7_behind 97 = .ok (.istore 5, 2) := by decide +kernel
theorem dX7_behind_99 : decode cX7_behind 99 = .ok (.iload 5, 2) := by decide +kernel
theorem dX7_behind_101 : decode cX7_behind 101 = .ok (.aload_n 0, 1) := by decide +kernel
theorem dX7_behind_102 : decode cX7_behind 102 = .ok (.getfield 7, 3) := by decide +kernel
theorem dX7_behind_105 : decode cX7_behind 105 = .ok (.iconst 1, 1) := by decide +kernel
theorem dX7_behind_106 : decode cX7_behind 106 = .ok (.iaload, 1) := by decide +kernel
theorem dX7_behind_107 : decode cX7_behind 107 = .ok (.if_icmp .ge 49, 3) := by decide +kernel
theorem dX7_behind_110 : decode cX7_behind 110 = .ok (.aload_n 0, 1) := by decide +kernel
theorem dX7_behind_111 : decode cX7_behind 111 = .ok (.getfield 7, 3) := by decide +kernel
theorem dX7_behind_114 : decode cX7_behind 114 = .ok (.iload 5, 2) := by decide +kernel
theorem dX7_behind_116 : decode cX7_behind 116 = .ok (.bipush 6, 2) := by decide +kernel
theorem dX7_behind_118 : decode cX7_behind 118 = .ok (.invokestatic 72, 3) := by decide +kernel
theorem dX7_behind_121 : decode cX7_behind 121 = .ok (.iload 5, 2) := by decide +kernel
theorem dX7_behind_123 : decode cX7_behind 123 = .ok (.iload_n 1, 1) := by decide +kernel
theorem dX7_behind_124 : decode cX7_behind 124 = .ok (.if_icmp .eq 9, 3) := by decide +kernel
theorem dX7_behind_127 : decode cX7_behind 127 = .ok (.iload 5, 2) := by decide +kernel
theorem dX7_behind_129 : decode cX7_behind 129 = .ok (.iload_n 2, 1) := by decide +kernel
theorem dX7_behind_130 : decode cX7_behind 130 = .ok (.if_icmp .ne 18, 3) := by decide +kernel
theorem dX7_behind_133 : decode cX7_behind 133 = .ok (.aload_n 0, 1) := by decide +kernel
theorem dX7_behind_134 : decode cX7_behind 134 = .ok (.getfield 7, 3) := by decide +kernel
theorem dX7_behind_137 : decode cX7_behind 137 = .ok (.iload 5, 2) := by decide +kernel
theorem dX7_behind_139 : decode cX7_behind 139 = .ok (.bipush 6, 2) := by decide +kernel
theorem dX7_behind_141 : decode cX7_behind 141 = .ok (.invokestatic 72, 3) := by decide +kernel
theorem dX7_behind_144 : decode cX7_behind 144 = .ok (.iaload, 1) := by decide +kernel
theorem dX7_behind_145 : decode cX7_behind 145 = .ok (.goto 4, 3) := by decide +kernel
theorem dX7_behind_148 : decode cX7_behind 148 = .ok (.iconst 3, 1) := by decide +kernel
theorem dX7_behind_149 : decode cX7_behind 149 = .ok (.iastore, 1) := by decide +kernel
theorem dX7_behind_150 : decode cX7_behind 150 = .ok (.iinc 5 1, 3) := by decide +kernel
theorem dX7_behind_153 : decode cX7_behind 153 = .ok (.goto (-54), 3) := by decide +kernel
theorem dX7_behind_156 : decode cX7_behind 156 = .ok (.aload_n 0, 1) := by decide +kernel
theorem dX7_behind_157 : decode cX7_behind 157 = .ok (.iload_n 1, 1) := by decide +kernel
theorem dX7_behind_158 : decode cX7_behind 158 = .ok (.bipush 10, 2) := by decide +kernel
theorem dX7_behind_160 : decode cX7_behind 160 = .ok (.invokevirtual 110, 3) := by decide +kernel
theorem dX7_behind_163 : decode cX7_behind 163 = .ok (.aload_n 0, 1) := by decide +kernel
theorem dX7_behind_164 : decode cX7_behind 164 = .ok (.iload 4, 2) := by decide +kernel
theorem dX7_behind_166 : decode cX7_behind 166 = .ok (.invokevirtual 179, 3) := by decide +kernel
theorem dX7_behind_169 : decode cX7_behind 169 = .ok (.istore 5, 2) := by decide +kernel
theorem dX7_behind_171 : decode cX7_behind 171 = .ok (.aload_n 0, 1) := by decide +kernel
theorem dX7_behind_172 : decode cX7_behind 172 = .ok (.iload_n 2, 1) := by decide +kernel
theorem dX7_behind_173 : decode cX7_behind 173 = .ok (.iload 5, 2) := by decide +kernel
theorem dX7_behind_175 : decode cX7_behind 175 = .ok (.ifCond .eq 8, 3) := by decide +kernel
theorem dX7_behind_178 : decode cX7_behind 178 = .ok (.bipush 10, 2) := by decide +kernel
theorem dX7_behind_180 : decode cX7_behind 180 = .ok (.goto 4, 3) := by decide +kernel
theorem dX7_behind_183 : decode cX7_behind 183 = .ok (.iconst 0, 1) := by decide +kernel
theorem dX7_behind_184 : decode cX7_behind 184 = .ok (.invokevirtual 110, 3) := by decide +kernel
theorem dX7_behind_187 : decode cX7_behind 187 = .ok (.iconst 0, 1) := by decide +kernel
theorem dX7_behind_188 : decode cX7_behind 188 = .ok (.istore 6, 2) := by decide +kernel
theorem dX7_behind_190 : decode cX7_behind 190 = .ok (.iload 6, 2) := by decide +kernel
theorem dX7_behind_192 : decode cX7_behind 192 = .ok (.sipush 200, 3) := by decide +kernel
theorem dX7_behind_195 : decode cX7_behind 195 = .ok (.if_icmp .ge 28, 3) := by decide +kernel
theorem dX7_behind_198 : decode cX7_behind 198 = .ok (.iload 5, 2) := by decide +kernel
theorem dX7_behind_200 : decode cX7_behind 200 = .ok (.ifCond .eq 23, 3) := by decide +kernel
theorem dX7_behind_203 : decode cX7_behind 203 = .ok (.aload_n 0, 1) := by decide +kernel
theorem dX7_behind_204 : decode cX7_behind 204 = .ok (.invokevirtual 182, 3) := by decide +kernel
theorem dX7_behind_207 : decode cX7_behind 207 = .ok (.ifCond .eq 16, 3) := by decide +kernel
theorem dX7_behind_210 : decode cX7_behind 210 = .ok (.aload_n 0, 1) := by decide +kernel
theorem dX7_behind_211 : decode cX7_behind 211 = .ok (.iconst 1, 1) := by decide +kernel
theorem dX7_behind_212 : decode cX7_behind 212 = .ok (.invokevirtual 179, 3) := by decide +kernel
theorem dX7_behind_215 : decode cX7_behind 215 = .ok (.istore 5, 2) := by decide +kernel
theorem dX7_behind_217 : decode cX7_behind 217 = .ok (.iinc 6 1, 3) := by decide +kernel
theorem dX7_behind_220 : decode cX7_behind 220 = .ok (.goto (-30), 3) := by decide +kernel
theorem dX7_behind_223 : decode cX7_behind 223 = .ok (.iload 5, 2) := by decide +kernel
theorem dX7_behind_225 : decode cX7_behind 225 = .ok (.ifCond .eq 50, 3) := by decide +kernel
theorem dX7_behind_228 : decode cX7_behind 228 = .ok (.aload_n 0, 1) := by decide +kernel
theorem dX7_behind_229 : decode cX7_behind 229 = .ok (.iload_n 1, 1) := by decide +kernel
theorem dX7_behind_230 : decode cX7_behind 230 = .ok (.bipush 6, 2) := by decide +kernel
theorem dX7_behind_232 : decode cX7_behind 232 = .ok (.invokevirtual 89, 3) := by decide +kernel
theorem dX7_behind_235 : decode cX7_behind 235 = .ok (.ifCond .ne 40, 3) := by decide +kernel
theorem dX7_behind_238 : decode cX7_behind 238 = .ok (.aload_n 0, 1) := by decide +kernel
theorem dX7_behind_239 : decode cX7_behind 239 = .ok (.iload_n 2, 1) := by decide +kernel
theorem dX7_behind_240 : decode cX7_behind 240 = .ok (.bipush 6, 2) := by decide +kernel
theorem dX7_behind_242 : decode cX7_behind 242 = .ok (.invokevirtual 89, 3) := by decide +kernel
theorem dX7_behind_245 : decode cX7_behind 245 = .ok (.ifCond .ne 30, 3) := by decide +kernel
theorem dX7_behind_248 : decode cX7_behind 248 = .ok (.aload_n 0, 1) := by decide +kernel
theorem dX7_behind_249 : decode cX7_behind 249 = .ok (.iload_n 1, 1) := by decide +kernel
theorem dX7_behind_250 : decode cX7_behind 250 = .ok (.iconst 4, 1) := by decide +kernel
theorem dX7_behind_251 : decode cX7_behind 251 = .ok (.invokevirtual 89, 3) := by decide +kernel
theorem dX7_behind_254 : decode cX7_behind 254 = .ok (.bipush 30, 2) := by decide +kernel
theorem dX7_behind_256 : decode cX7_behind 256 = .ok (.if_icmp .ne 19, 3) := by decide +kernel
theorem dX7_behind_259 : decode cX7_behind 259 = .ok (.aload_n 0, 1) := by decide +kernel
theorem dX7_behind_260 : decode cX7_behind 260 = .ok (.iload_n 2, 1) := by decide +kernel
theorem dX7_behind_261 : decode cX7_behind 261 = .ok (.iconst 4, 1) := by decide +kernel
theorem dX7_behind_262 : decode cX7_behind 262 = .ok (.invokevirtual 89, 3) := by decide +kernel
theorem dX7_behind_265 : decode cX7_behind 265 = .ok (.bipush 30, 2) := by decide +kernel
theorem dX7_behind_267 : decode cX7_behind 267 = .ok (.if_icmp .ne 8, 3) := by decide +kernel
theorem dX7_behind_270 : decode cX7_behind 270 = .ok (.iload 4, 2) := by decide +kernel
theorem dX7_behind_272 : decode cX7_behind 272 = .ok (.goto 4, 3) := by decide +kernel
theorem dX7_behind_275 : decode cX7_behind 275 = .ok (.iconst (-1), 1) := by decide +kernel
theorem dX7_behind_276 : decode cX7_behind 276 = .ok (.istore_n 3, 1) := by decide +kernel
theorem dX7_behind_277 : decode cX7_behind 277 = .ok (.aload_n 0, 1) := by decide +kernel
theorem dX7_behind_278 : decode cX7_behind 278 = .ok (.invokevirtual 154, 3) := by decide +kernel
theorem dX7_behind_281 : decode cX7_behind 281 = .ok (.iinc 4 1, 3) := by decide +kernel
theorem dX7_behind_284 : decode cX7_behind 284 = .ok (.goto (-199), 3) := by decide +kernel
theorem dX7_behind_287 : decode cX7_behind 287 = .ok (.iload_n 3, 1) := by decide +kernel
theorem dX7_behind_288 : decode cX7_behind 288 = .ok (.ifCond .ge 12, 3) := by decide +kernel
theorem dX7_behind_291 : decode cX7_behind 291 = .ok (.aload_n 0, 1) := by decide +kernel
theorem dX7_behind_292 : decode cX7_behind 292 = .ok (.ldc 157, 2) := by decide +kernel
theorem dX7_behind_294 : decode cX7_behind 294 = .ok (.invokevirtual 59, 3) := by decide +kernel
theorem dX7_behind_297 : decode cX7_behind 297 = .ok (.goto 4, 3) := by decide +kernel
theorem dX7_behind_300 : decode cX7_behind 300 = .ok (.iload_n 3, 1) := by decide +kernel
theorem dX7_behind_301 : decode cX7_behind 301 = .ok (.ireturn, 1) := by decide +kernel
theorem dX7_come_0 : decode cX7_come 0 = .ok (.aload_n 0, 1) := by decide +kernel
theorem dX7_come_1 : decode cX7_come 1 = .ok (.sipush 200, 3) := by decide +kernel
theorem dX7_come_4 : decode cX7_come 4 = .ok (.invokevirtual 132, 3) := by decide +kernel
theorem dX7_come_7 : decode cX7_come 7 = .ok (.ifCond .eq 10, 3) := by decide +kernel
theorem dX7_come_10 : decode cX7_come 10 = .ok (.aload_n 0, 1) := by decide +kernel
theorem dX7_come_11 : decode cX7_come 11 = .ok (.ldc 109, 2) := by decide +kernel
theorem dX7_come_13 : decode cX7_come 13 = .ok (.invokevirtual 59, 3) := by decide +kernel
theorem dX7_come_16 : decode cX7_come 16 = .ok (.ireturn, 1) := by decide +kernel
theorem dX7_come_17 : decode cX7_come 17 = .ok (.iconst 0, 1) := by decide +kernel
theorem dX7_come_18 : decode cX7_come 18 = .ok (.istore_n 1, 1) := by decide +kernel
theorem dX7_come_19 : decode cX7_come 19 = .ok (.iconst 0, 1) := by decide +kernel
theorem dX7_come_20 : decode cX7_come 20 = .ok (.istore_n 2, 1) := by decide +kernel
theorem dX7_come_21 : decode cX7_come 21 = .ok (.iload_n 2, 1) := by decide +kernel
theorem dX7_come_22 : decode cX7_come 22 = .ok (.aload_n 0, 1) := by decide +kernel
theorem dX7_come_23 : decode cX7_come 23 = .ok (.getfield 7, 3) := by decide +kernel
theorem dX7_come_26 : decode cX7_come 26 = .ok (.iconst 1, 1) := by decide +kernel
theorem dX7_come_27 : decode cX7_come 27 = .ok (.iaload, 1) := by decide +kernel
theorem dX7_come_28 : decode cX7_come 28 = .ok (.if_icmp .ge 52, 3) := by decide +kernel
theorem dX7_come_31 : decode cX7_come 31 = .ok (.aload_n 0, 1) := by decide +kernel
theorem dX7_come_32 : decode cX7_come 32 = .ok (.iload_n 2, 1) := by decide +kernel
theorem dX7_come_33 : decode cX7_come 33 = .ok (.bipush 6, 2) := by decide +kernel
theorem dX7_come_35 : decode cX7_come 35 = .ok (.invokevirtual 89, 3) := by decide +kernel
theorem dX7_come_38 : decode cX7_come 38 = .ok (.ifCond .ne 36, 3) := by decide +kernel
theorem dX7_come_41 : decode cX7_come 41 = .ok (.aload_n 0, 1) := by decide +kernel
theorem dX7_come_42 : decode cX7_come 42 = .ok (.iload_n 2, 1) := by decide +kernel
theorem dX7_come_43 : decode cX7_come 43 = .ok (.iconst 4, 1) := by decide +kernel
theorem dX7_come_44 : decode cX7_come 44 = .ok (.invokevirtual 89, 3) := by decide +kernel
theorem dX7_come_47 : decode cX7_come 47 = .ok (.ifCond .ne 27, 3) := by decide +kernel
theorem dX7_come_50 : decode cX7_come 50 = .ok (.aload_n 0, 1) := by decide +kernel
theorem dX7_come_51 : decode cX7_come 51 = .ok (.iload_n 2, 1) := by decide +kernel
theorem dX7_come_52 : decode cX7_come 52 = .ok (.bipush 10, 2) := by decide +kernel
theorem dX7_come_54 : decode cX7_come 54 = .ok (.invokevirtual 173, 3) := by decide +kernel
theorem dX7_come_57 : decode cX7_come 57 = .ok (.iload_n 1, 1) := by decide +kernel
theorem dX7_come_58 : decode cX7_come 58 = .ok (.aload_n 0, 1) := by decide +kernel
theorem dX7_come_59 : decode cX7_come 59 = .ok (.getfield 170, 3) := by decide +kernel
theorem dX7_come_62 : decode cX7_come 62 = .ok (.bipush 30, 2) := by decide +kernel
theorem dX7_come_64 : decode cX7_come 64 = .ok (.if_icmp .ne 7, 3) := by decide +kernel
theorem dX7_come_67 : decode cX7_come 67 = .ok (.iconst 1, 1) := by decide +kernel
theorem dX7_come_68 : decode cX7_come 68 = .ok (.goto 4, 3) := by decide +kernel
theorem dX7_come_71 : decode cX7_come 71 = .ok (.iconst 0, 1) := by decide +kernel
theorem dX7_come_72 : decode cX7_come 72 = .ok (.iadd, 1) := by decide +kernel
theorem dX7_come_73 : decode cX7_come 73 = .ok (.istore_n 1, 1) := by decide +kernel
theorem dX7_come_74 : decode cX7_come 74 = .ok (.iinc 2 1, 3) := by decide +kernel
theorem dX7_come_77 : decode cX7_come 77 = .ok (.goto (-56), 3) := by decide +kernel
theorem dX7_come_80 : decode cX7_come 80 = .ok (.iload_n 1, 1) := by decide +kernel
theorem dX7_come_81 : decode cX7_come 81 = .ok (.ireturn, 1) := by decide +kernel
theorem dX7_isSet_0 : decode cX7_isSet 0 = .ok (.iload_n 1, 1) := by decide +kernel
theorem dX7_isSet_1 : decode cX7_isSet 1 = .ok (.i2l, 1) := by decide +kernel
theorem dX7_isSet_2 : decode cX7_isSet 2 = .ok (.lconst 1, 1) := by decide +kernel
theorem dX7_isSet_3 : decode cX7_isSet 3 = .ok (.iconst 1, 1) := by decide +kernel
theorem dX7_isSet_4 : decode cX7_isSet 4 = .ok (.aload_n 0, 1) := by decide +kernel
theorem dX7_isSet_5 : decode cX7_isSet 5 = .ok (.getfield 7, 3) := by decide +kernel
theorem dX7_isSet_8 : decode cX7_isSet 8 = .ok (.iconst 1, 1) := by decide +kernel
theorem dX7_isSet_9 : decode cX7_isSet 9 = .ok (.iaload, 1) := by decide +kernel
theorem dX7_isSet_10 : decode cX7_isSet 10 = .ok (.ishl, 1) := by decide +kernel
theorem dX7_isSet_11 : decode cX7_isSet 11 = .ok (.iconst 1, 1) := by decide +kernel
theorem dX7_isSet_12 : decode cX7_isSet 12 = .ok (.isub, 1) := by decide +kernel
theorem dX7_isSet_13 : decode cX7_isSet 13 = .ok (.i2l, 1) := by decide +kernel
theorem dX7_isSet_14 : decode cX7_isSet 14 = .ok (.invokestatic 46, 3) := by decide +kernel
theorem dX7_isSet_17 : decode cX7_isSet 17 = .ok (.ireturn, 1) := by decide +kernel
theorem dX7_weighs_0 : decode cX7_weighs 0 = .ok (.iconst 0, 1) := by decide +kernel
theorem dX7_weighs_1 : decode cX7_weighs 1 = .ok (.istore_n 2, 1) := by decide +kernel
theorem dX7_weighs_2 : decode cX7_weighs 2 = .ok (.iconst 0, 1) := by decide +kernel
theorem dX7_weighs_3 : decode cX7_weighs 3 = .ok (.istore_n 3, 1) := by decide +kernel
theorem dX7_weighs_4 : decode cX7_weighs 4 = .ok (.iload_n 3, 1) := by decide +kernel
theorem dX7_weighs_5 : decode cX7_weighs 5 = .ok (.aload_n 0, 1) := by decide +kernel
theorem dX7_weighs_6 : decode cX7_weighs 6 = .ok (.getfield 7, 3) := by decide +kernel
theorem dX7_weighs_9 : decode cX7_weighs 9 = .ok (.iconst 1, 1) := by decide +kernel
theorem dX7_weighs_10 : decode cX7_weighs 10 = .ok (.iaload, 1) := by decide +kernel
theorem dX7_weighs_11 : decode cX7_weighs 11 = .ok (.if_icmp .ge 30, 3) := by decide +kernel
theorem dX7_weighs_14 : decode cX7_weighs 14 = .ok (.iload_n 2, 1) := by decide +kernel
theorem dX7_weighs_15 : decode cX7_weighs 15 = .ok (.iload_n 1, 1) := by decide +kernel
theorem dX7_weighs_16 : decode cX7_weighs 16 = .ok (.iload_n 3, 1) := by decide +kernel
theorem dX7_weighs_17 : decode cX7_weighs 17 = .ok (.invokestatic 186, 3) := by decide +kernel
theorem dX7_weighs_20 : decode cX7_weighs 20 = .ok (.ifCond .eq 12, 3) := by decide +kernel
theorem dX7_weighs_23 : decode cX7_weighs 23 = .ok (.aload_n 0, 1) := by decide +kernel
theorem dX7_weighs_24 : decode cX7_weighs 24 = .ok (.iload_n 3, 1) := by decide +kernel
theorem dX7_weighs_25 : decode cX7_weighs 25 = .ok (.iconst 1, 1) := by decide +kernel
theorem dX7_weighs_26 : decode cX7_weighs 26 = .ok (.invokevirtual 89, 3) := by decide +kernel
theorem dX7_weighs_29 : decode cX7_weighs 29 = .ok (.goto 4, 3) := by decide +kernel
theorem dX7_weighs_32 : decode cX7_weighs 32 = .ok (.iconst 0, 1) := by decide +kernel
theorem dX7_weighs_33 : decode cX7_weighs 33 = .ok (.iadd, 1) := by decide +kernel
theorem dX7_weighs_34 : decode cX7_weighs 34 = .ok (.istore_n 2, 1) := by decide +kernel
theorem dX7_weighs_35 : decode cX7_weighs 35 = .ok (.iinc 3 1, 3) := by decide +kernel
theorem dX7_weighs_38 : decode cX7_weighs 38 = .ok (.goto (-34), 3) := by decide +kernel
theorem dX7_weighs_41 : decode cX7_weighs 41 = .ok (.iload_n 2, 1) := by decide +kernel
theorem dX7_weighs_42 : decode cX7_weighs 42 = .ok (.ireturn, 1) := by decide +kernel
theorem dX7_offBy_0 : decode cX7_offBy 0 = .ok (.iconst 2, 1) := by decide +kernel
theorem dX7_offBy_1 : decode cX7_offBy 1 = .ok (.aload_n 0, 1) := by decide +kernel
theorem dX7_offBy_2 : decode cX7_offBy 2 = .ok (.iload_n 1, 1) := by decide +kernel
theorem dX7_offBy_3 : decode cX7_offBy 3 = .ok (.invokevirtual 189, 3) := by decide +kernel
theorem dX7_offBy_6 : decode cX7_offBy 6 = .ok (.imul, 1) := by decide +kernel
theorem dX7_offBy_7 : decode cX7_offBy 7 = .ok (.aload_n 0, 1) := by decide +kernel
theorem dX7_offBy_8 : decode cX7_offBy 8 = .ok (.iload_n 2, 1) := by decide +kernel
theorem dX7_offBy_9 : decode cX7_offBy 9 = .ok (.invokevirtual 189, 3) := by decide +kernel
theorem dX7_offBy_12 : decode cX7_offBy 12 = .ok (.isub, 1) := by decide +kernel
theorem dX7_offBy_13 : decode cX7_offBy 13 = .ok (.istore_n 3, 1) := by decide +kernel
theorem dX7_offBy_14 : decode cX7_offBy 14 = .ok (.iload_n 3, 1) := by decide +kernel
theorem dX7_offBy_15 : decode cX7_offBy 15 = .ok (.ifCond .ge 9, 3) := by decide +kernel
theorem dX7_offBy_18 : decode cX7_offBy 18 = .ok (.iconst 0, 1) := by decide +kernel
theorem dX7_offBy_19 : decode cX7_offBy 19 = .ok (.iload_n 3, 1) := by decide +kernel
theorem dX7_offBy_20 : decode cX7_offBy 20 = .ok (.isub, 1) := by decide +kernel
theorem dX7_offBy_21 : decode cX7_offBy 21 = .ok (.goto 4, 3) := by decide +kernel
theorem dX7_offBy_24 : decode cX7_offBy 24 = .ok (.iload_n 3, 1) := by decide +kernel
theorem dX7_offBy_25 : decode cX7_offBy 25 = .ok (.ireturn, 1) := by decide +kernel
theorem dX7_packed_0 : decode cX7_packed 0 = .ok (.iload_n 1, 1) := by decide +kernel
theorem dX7_packed_1 : decode cX7_packed 1 = .ok (.iconst 0, 1) := by decide +kernel
theorem dX7_packed_2 : decode cX7_packed 2 = .ok (.iload_n 1, 1) := by decide +kernel
theorem dX7_packed_3 : decode cX7_packed 3 = .ok (.isub, 1) := by decide +kernel
theorem dX7_packed_4 : decode cX7_packed 4 = .ok (.iand, 1) := by decide +kernel
theorem dX7_packed_5 : decode cX7_packed 5 = .ok (.istore_n 2, 1) := by decide +kernel
theorem dX7_packed_6 : decode cX7_packed 6 = .ok (.iload_n 1, 1) := by decide +kernel
theorem dX7_packed_7 : decode cX7_packed 7 = .ok (.istore_n 3, 1) := by decide +kernel
theorem dX7_packed_8 : decode cX7_packed 8 = .ok (.iconst 1, 1) := by decide +kernel
theorem dX7_packed_9 : decode cX7_packed 9 = .ok (.istore 4, 2) := by decide +kernel
theorem dX7_packed_11 : decode cX7_packed 11 = .ok (.iload 4, 2) := by decide +kernel
theorem dX7_packed_13 : decode cX7_packed 13 = .ok (.iload_n 1, 1) := by decide +kernel
theorem dX7_packed_14 : decode cX7_packed 14 = .ok (.if_icmp .ge 82, 3) := by decide +kernel
theorem dX7_packed_17 : decode cX7_packed 17 = .ok (.iload 4, 2) := by decide +kernel
theorem dX7_packed_19 : decode cX7_packed 19 = .ok (.iload_n 1, 1) := by decide +kernel
theorem dX7_packed_20 : decode cX7_packed 20 = .ok (.iconst (-1), 1) := by decide +kernel
theorem dX7_packed_21 : decode cX7_packed 21 = .ok (.ixor, 1) := by decide +kernel
theorem dX7_packed_22 : decode cX7_packed 22 = .ok (.iand, 1) := by decide +kernel
theorem dX7_packed_23 : decode cX7_packed 23 = .ok (.ifCond .ne 14, 3) := by decide +kernel
theorem dX7_packed_26 : decode cX7_packed 26 = .ok (.iload 4, 2) := by decide +kernel
theorem dX7_packed_28 : decode cX7_packed 28 = .ok (.iload_n 2, 1) := by decide +kernel
theorem dX7_packed_29 : decode cX7_packed 29 = .ok (.iand, 1) := by decide +kernel
theorem dX7_packed_30 : decode cX7_packed 30 = .ok (.ifCond .eq 7, 3) := by decide +kernel
theorem dX7_packed_33 : decode cX7_packed 33 = .ok (.iconst 1, 1) := by decide +kernel
theorem dX7_packed_34 : decode cX7_packed 34 = .ok (.goto 4, 3) := by decide +kernel
theorem dX7_packed_37 : decode cX7_packed 37 = .ok (.iconst 0, 1) := by decide +kernel
theorem dX7_packed_38 : decode cX7_packed 38 = .ok (.istore 5, 2) := by decide +kernel
theorem dX7_packed_40 : decode cX7_packed 40 = .ok (.aload_n 0, 1) := by decide +kernel
theorem dX7_packed_41 : decode cX7_packed 41 = .ok (.iload_n 3, 1) := by decide +kernel
theorem dX7_packed_42 : decode cX7_packed 42 = .ok (.iload_n 1, 1) := by decide +kernel
theorem dX7_packed_43 : decode cX7_packed 43 = .ok (.invokevirtual 192, 3) := by decide +kernel
theorem dX7_packed_46 : decode cX7_packed 46 = .ok (.istore 6, 2) := by decide +kernel
theorem dX7_packed_48 : decode cX7_packed 48 = .ok (.iload 5, 2) := by decide +kernel
theorem dX7_packed_50 : decode cX7_packed 50 = .ok (.ifCond .eq 38, 3) := by decide +kernel
theorem dX7_packed_53 : decode cX7_packed 53 = .ok (.aload_n 0, 1) := by decide +kernel
theorem dX7_packed_54 : decode cX7_packed 54 = .ok (.iload 4, 2) := by decide +kernel
theorem dX7_packed_56 : decode cX7_packed 56 = .ok (.iload_n 1, 1) := by decide +kernel
theorem dX7_packed_57 : decode cX7_packed 57 = .ok (.invokevirtual 192, 3) := by decide +kernel
theorem dX7_packed_60 : decode cX7_packed 60 = .ok (.iload 6, 2) := by decide +kernel
theorem dX7_packed_62 : decode cX7_packed 62 = .ok (.if_icmp .lt 21, 3) := by decide +kernel
theorem dX7_packed_65 : decode cX7_packed 65 = .ok (.aload_n 0, 1) := by decide +kernel
theorem dX7_packed_66 : decode cX7_packed 66 = .ok (.iload 4, 2) := by decide +kernel
theorem dX7_packed_68 : decode cX7_packed 68 = .ok (.iload_n 1, 1) := by decide +kernel
theorem dX7_packed_69 : decode cX7_packed 69 = .ok (.invokevirtual 192, 3) := by decide +kernel
theorem dX7_packed_72 : decode cX7_packed 72 = .ok (.iload 6, 2) := by decide +kernel
theorem dX7_packed_74 : decode cX7_packed 74 = .ok (.if_icmp .ne 14, 3) := by decide +kernel
theorem dX7_packed_77 : decode cX7_packed 77 = .ok (.iload 4, 2) := by decide +kernel
theorem dX7_packed_79 : decode cX7_packed 79 = .ok (.iload_n 3, 1) := by decide +kernel
theorem dX7_packed_80 : decode cX7_packed 80 = .ok (.if_icmp .ge 8, 3) := by decide +kernel
theorem dX7_packed_83 : decode cX7_packed 83 = .ok (.iload 4, 2) := by decide +kernel
theorem dX7_packed_85 : decode cX7_packed 85 = .ok (.goto 4, 3) := by decide +kernel
theorem dX7_packed_88 : decode cX7_packed 88 = .ok (.iload_n 3, 1) := by decide +kernel
theorem dX7_packed_89 : decode cX7_packed 89 = .ok (.istore_n 3, 1) := by decide +kernel
theorem dX7_packed_90 : decode cX7_packed 90 = .ok (.iinc 4 1, 3) := by decide +kernel
theorem dX7_packed_93 : decode cX7_packed 93 = .ok (.goto (-82), 3) := by decide +kernel
theorem dX7_packed_96 : decode cX7_packed 96 = .ok (.iload_n 3, 1) := by decide +kernel
theorem dX7_packed_97 : decode cX7_packed 97 = .ok (.ireturn, 1) := by decide +kernel
theorem dX7_pack_0 : decode cX7_pack 0 = .ok (.aload_n 0, 1) := by decide +kernel
theorem dX7_pack_1 : decode cX7_pack 1 = .ok (.iload_n 1, 1) := by decide +kernel
theorem dX7_pack_2 : decode cX7_pack 2 = .ok (.invokevirtual 195, 3) := by decide +kernel
theorem dX7_pack_5 : decode cX7_pack 5 = .ok (.ifCond .eq 11, 3) := by decide +kernel
theorem dX7_pack_8 : decode cX7_pack 8 = .ok (.aload_n 0, 1) := by decide +kernel
theorem dX7_pack_9 : decode cX7_pack 9 = .ok (.iload_n 1, 1) := by decide +kernel
theorem dX7_pack_10 : decode cX7_pack 10 = .ok (.invokevirtual 198, 3) := by decide +kernel
theorem dX7_pack_13 : decode cX7_pack 13 = .ok (.goto 9, 3) := by decide +kernel
theorem dX7_pack_16 : decode cX7_pack 16 = .ok (.aload_n 0, 1) := by decide +kernel
theorem dX7_pack_17 : decode cX7_pack 17 = .ok (.ldc 43, 2) := by decide +kernel
theorem dX7_pack_19 : decode cX7_pack 19 = .ok (.invokevirtual 59, 3) := by decide +kernel
theorem dX7_pack_22 : decode cX7_pack 22 = .ok (.ireturn, 1) := by decide +kernel
theorem dX7_lean_0 : decode cX7_lean 0 = .ok (.aload_n 0, 1) := by decide +kernel
theorem dX7_lean_1 : decode cX7_lean 1 = .ok (.iload_n 1, 1) := by decide +kernel
theorem dX7_lean_2 : decode cX7_lean 2 = .ok (.invokevirtual 195, 3) := by decide +kernel
theorem dX7_lean_5 : decode cX7_lean 5 = .ok (.ifCond .eq 16, 3) := by decide +kernel
theorem dX7_lean_8 : decode cX7_lean 8 = .ok (.aload_n 0, 1) := by decide +kernel
theorem dX7_lean_9 : decode cX7_lean 9 = .ok (.aload_n 0, 1) := by decide +kernel
theorem dX7_lean_10 : decode cX7_lean 10 = .ok (.iload_n 1, 1) := by decide +kernel
theorem dX7_lean_11 : decode cX7_lean 11 = .ok (.invokevirtual 198, 3) := by decide +kernel
theorem dX7_lean_14 : decode cX7_lean 14 = .ok (.iload_n 1, 1) := by decide +kernel
theorem dX7_lean_15 : decode cX7_lean 15 = .ok (.invokevirtual 192, 3) := by decide +kernel
theorem dX7_lean_18 : decode cX7_lean 18 = .ok (.goto 9, 3) := by decide +kernel
theorem dX7_lean_21 : decode cX7_lean 21 = .ok (.aload_n 0, 1) := by decide +kernel
theorem dX7_lean_22 : decode cX7_lean 22 = .ok (.ldc 43, 2) := by decide +kernel
theorem dX7_lean_24 : decode cX7_lean 24 = .ok (.invokevirtual 59, 3) := by decide +kernel
theorem dX7_lean_27 : decode cX7_lean 27 = .ok (.ireturn, 1) := by decide +kernel
theorem dX7_drums_0 : decode cX7_drums 0 = .ok (.aload_n 0, 1) := by decide +kernel
theorem dX7_drums_1 : decode cX7_drums 1 = .ok (.iload_n 1, 1) := by decide +kernel
theorem dX7_drums_2 : decode cX7_drums 2 = .ok (.invokevirtual 195, 3) := by decide +kernel
theorem dX7_drums_5 : decode cX7_drums 5 = .ok (.ifCond .eq 15, 3) := by decide +kernel
theorem dX7_drums_8 : decode cX7_drums 8 = .ok (.iload_n 2, 1) := by decide +kernel
theorem dX7_drums_9 : decode cX7_drums 9 = .ok (.i2l, 1) := by decide +kernel
theorem dX7_drums_10 : decode cX7_drums 10 = .ok (.lconst 1, 1) := by decide +kernel
theorem dX7_drums_11 : decode cX7_drums 11 = .ok (.ldc2_w 201, 3) := by decide +kernel
theorem dX7_drums_14 : decode cX7_drums 14 = .ok (.invokestatic 46, 3) := by decide +kernel
theorem dX7_drums_17 : decode cX7_drums 17 = .ok (.ifCond .ne 10, 3) := by decide +kernel
theorem dX7_drums_20 : decode cX7_drums 20 = .ok (.aload_n 0, 1) := by decide +kernel
theorem dX7_drums_21 : decode cX7_drums 21 = .ok (.ldc 43, 2) := by decide +kernel
theorem dX7_drums_23 : decode cX7_drums 23 = .ok (.invokevirtual 59, 3) := by decide +kernel
theorem dX7_drums_26 : decode cX7_drums 26 = .ok (.ireturn, 1) := by decide +kernel
theorem dX7_drums_27 : decode cX7_drums 27 = .ok (.iconst 1, 1) := by decide +kernel
theorem dX7_drums_28 : decode cX7_drums 28 = .ok (.istore_n 3, 1) := by decide +kernel
theorem dX7_drums_29 : decode cX7_drums 29 = .ok (.iconst 0, 1) := by decide +kernel
theorem dX7_drums_30 : decode cX7_drums 30 = .ok (.istore 4, 2) := by decide +kernel
theorem dX7_drums_32 : decode cX7_drums 32 = .ok (.iload 4, 2) := by decide +kernel
theorem dX7_drums_34 : decode cX7_drums 34 = .ok (.aload_n 0, 1) := by decide +kernel
theorem dX7_drums_35 : decode cX7_drums 35 = .ok (.getfield 7, 3) := by decide +kernel
theorem dX7_drums_38 : decode cX7_drums 38 = .ok (.iconst 1, 1) := by decide +kernel
theorem dX7_drums_39 : decode cX7_drums 39 = .ok (.iaload, 1) := by decide +kernel
theorem dX7_drums_40 : decode cX7_drums 40 = .ok (.if_icmp .ge 39, 3) := by decide +kernel
theorem dX7_drums_43 : decode cX7_drums 43 = .ok (.iload_n 3, 1) := by decide +kernel
theorem dX7_drums_44 : decode cX7_drums 44 = .ok (.ifCond .eq 27, 3) := by decide +kernel
theorem dX7_drums_47 : decode cX7_drums 47 = .ok (.iload_n 1, 1) := by decide +kernel
theorem dX7_drums_48 : decode cX7_drums 48 = .ok (.iload 4, 2) := by decide +kernel
theorem dX7_drums_50 : decode cX7_drums 50 = .ok (.invokestatic 186, 3) := by decide +kernel
theorem dX7_drums_53 : decode cX7_drums 53 = .ok (.ifCond .eq 14, 3) := by decide +kernel
theorem dX7_drums_56 : decode cX7_drums 56 = .ok (.aload_n 0, 1) := by decide +kernel
theorem dX7_drums_57 : decode cX7_drums 57 = .ok (.iload 4, 2) := by decide +kernel
theorem dX7_drums_59 : decode cX7_drums 59 = .ok (.iconst 1, 1) := by decide +kernel
theorem dX7_drums_60 : decode cX7_drums 60 = .ok (.invokevirtual 89, 3) := by decide +kernel
theorem dX7_drums_63 : decode cX7_drums 63 = .ok (.iload_n 2, 1) := by decide +kernel
theorem dX7_drums_64 : decode cX7_drums 64 = .ok (.if_icmp .gt 7, 3) := by decide +kernel
theorem dX7_drums_67 : decode cX7_drums 67 = .ok (.iconst 1, 1) := by decide +kernel
theorem dX7_drums_68 : decode cX7_drums 68 = .ok (.goto 4, 3) := by decide +kernel
theorem dX7_drums_71 : decode cX7_drums 71 = .ok (.iconst 0, 1) := by decide +kernel
theorem dX7_drums_72 : decode cX7_drums 72 = .ok (.istore_n 3, 1) := by decide +kernel
theorem dX7_drums_73 : decode cX7_drums 73 = .ok (.iinc 4 1, 3) := by decide +kernel
theorem dX7_drums_76 : decode cX7_drums 76 = .ok (.goto (-44), 3) := by decide +kernel
theorem dX7_drums_79 : decode cX7_drums 79 = .ok (.iload_n 3, 1) := by decide +kernel
theorem dX7_drums_80 : decode cX7_drums 80 = .ok (.ifCond .ne 10, 3) := by decide +kernel
theorem dX7_drums_83 : decode cX7_drums 83 = .ok (.aload_n 0, 1) := by decide +kernel
theorem dX7_drums_84 : decode cX7_drums 84 = .ok (.ldc 157, 2) := by decide +kernel
theorem dX7_drums_86 : decode cX7_drums 86 = .ok (.invokevirtual 59, 3) := by decide +kernel
theorem dX7_drums_89 : decode cX7_drums 89 = .ok (.ireturn, 1) := by decide +kernel
theorem dX7_drums_90 : decode cX7_drums 90 = .ok (.aload_n 0, 1) := by decide +kernel
theorem dX7_drums_91 : decode cX7_drums 91 = .ok (.getfield 22, 3) := by decide +kernel
theorem dX7_drums_94 : decode cX7_drums 94 = .ok (.iconst 0, 1) := by decide +kernel
theorem dX7_drums_95 : decode cX7_drums 95 = .ok (.iconst 0, 1) := by decide +kernel
theorem dX7_drums_96 : decode cX7_drums 96 = .ok (.iastore, 1) := by decide +kernel
theorem dX7_drums_97 : decode cX7_drums 97 = .ok (.iconst 1, 1) := by decide +kernel
theorem dX7_drums_98 : decode cX7_drums 98 = .ok (.istore 4, 2) := by decide +kernel
theorem dX7_drums_100 : decode cX7_drums 100 = .ok (.iload 4, 2) := by decide +kernel
theorem dX7_drums_102 : decode cX7_drums 102 = .ok (.iload_n 1, 1) := by decide +kernel
theorem dX7_drums_103 : decode cX7_drums 103 = .ok (.if_icmp .gt 173, 3) := by decide +kernel
theorem dX7_drums_106 : decode cX7_drums 106 = .ok (.aload_n 0, 1) := by decide +kernel
theorem dX7_drums_107 : decode cX7_drums 107 = .ok (.getfield 22, 3) := by decide +kernel
theorem dX7_drums_110 : decode cX7_drums 110 = .ok (.iload 4, 2) := by decide +kernel
theorem dX7_drums_112 : decode cX7_drums 112 = .ok (.ldc 203, 2) := by decide +kernel
theorem dX7_drums_114 : decode cX7_drums 114 = .ok (.iastore, 1) := by decide +kernel
theorem dX7_drums_115 : decode cX7_drums 115 = .ok (.iconst 0, 1) := by decide +kernel
theorem dX7_drums_116 : decode cX7_drums 116 = .ok (.istore 5, 2) := by decide +kernel
theorem dX7_drums_118 : decode cX7_drums 118 = .ok (.iload 5, 2) := by decide +kernel
theorem dX7_drums_120 : decode cX7_drums 120 = .ok (.aload_n 0, 1) := by decide +kernel
theorem dX7_drums_121 : decode cX7_drums 121 = .ok (.getfield 7, 3) := by decide +kernel
theorem dX7_drums_124 : decode cX7_drums 124 = .ok (.iconst 1, 1) := by decide +kernel
theorem dX7_drums_125 : decode cX7_drums 125 = .ok (.iaload, 1) := by decide +kernel
theorem dX7_drums_126 : decode cX7_drums 126 = .ok (.if_icmp .ge 144, 3) := by decide +kernel
theorem dX7_drums_129 : decode cX7_drums 129 = .ok (.iload 4, 2) := by decide +kernel
theorem dX7_drums_131 : decode cX7_drums 131 = .ok (.iload_n 1, 1) := by decide +kernel
theorem dX7_drums_132 : decode cX7_drums 132 = .ok (.iconst (-1), 1) := by decide +kernel
theorem dX7_drums_133 : decode cX7_drums 133 = .ok (.ixor, 1) := by decide +kernel
theorem dX7_drums_134 : decode cX7_drums 134 = .ok (.iand, 1) := by decide +kernel
theorem dX7_drums_135 : decode cX7_drums 135 = .ok (.ifCond .ne 135, 3) := by decide +kernel
theorem dX7_drums_138 : decode cX7_drums 138 = .ok (.iload 4, 2) := by decide +kernel
theorem dX7_drums_140 : decode cX7_drums 140 = .ok (.iload 5, 2) := by decide +kernel
theorem dX7_drums_142 : decode cX7_drums 142 = .ok (.invokestatic 186, 3) := by decide +kernel
theorem dX7_drums_145 : decode cX7_drums 145 = .ok (.ifCond .eq 119, 3) := by decide +kernel
theorem dX7_drums_148 : decode cX7_drums 148 = .ok (.aload_n 0, 1) := by decide +kernel
theorem dX7_drums_149 : decode cX7_drums 149 = .ok (.getfield 22, 3) := by decide +kernel
theorem dX7_drums_152 : decode cX7_drums 152 = .ok (.iload 4, 2) := by decide +kernel
theorem dX7_drums_154 : decode cX7_drums 154 = .ok (.iconst 1, 1) := by decide +kernel
theorem dX7_drums_155 : decode cX7_drums 155 = .ok (.iload 5, 2) := by decide +kernel
theorem dX7_drums_157 : decode cX7_drums 157 = .ok (.ishl, 1) := by decide +kernel
theorem dX7_drums_158 : decode cX7_drums 158 = .ok (.iconst (-1), 1) := by decide +kernel
theorem dX7_drums_159 : decode cX7_drums 159 = .ok (.ixor, 1) := by decide +kernel
theorem dX7_drums_160 : decode cX7_drums 160 = .ok (.iand, 1) := by decide +kernel
theorem dX7_drums_161 : decode cX7_drums 161 = .ok (.iaload, 1) := by decide +kernel
theorem dX7_drums_162 : decode cX7_drums 162 = .ok (.istore 6, 2) := by decide +kernel
theorem dX7_drums_164 : decode cX7_drums 164 = .ok (.aload_n 0, 1) := by decide +kernel
theorem dX7_drums_165 : decode cX7_drums 165 = .ok (.iload 5, 2) := by decide +kernel
theorem dX7_drums_167 : decode cX7_drums 167 = .ok (.iconst 1, 1) := by decide +kernel
theorem dX7_drums_168 : decode cX7_drums 168 = .ok (.invokevirtual 89, 3) := by decide +kernel
theorem dX7_drums_171 : decode cX7_drums 171 = .ok (.istore 7, 2) := by decide +kernel
theorem dX7_drums_173 : decode cX7_drums 173 = .ok (.iload 6, 2) := by decide +kernel
theorem dX7_drums_175 : decode cX7_drums 175 = .ok (.sipush 1000, 3) := by decide +kernel
theorem dX7_drums_178 : decode cX7_drums 178 = .ok (.if_icmp .lt 20, 3) := by decide +kernel
theorem dX7_drums_181 : decode cX7_drums 181 = .ok (.iload 6, 2) := by decide +kernel
theorem dX7_drums_183 : decode cX7_drums 183 = .ok (.sipush 1000, 3) := by decide +kernel
theorem dX7_drums_186 : decode cX7_drums 186 = .ok (.irem, 1) := by decide +kernel
theorem dX7_drums_187 : decode cX7_drums 187 = .ok (.iload 7, 2) := by decide +kernel
theorem dX7_drums_189 : decode cX7_drums 189 = .ok (.iadd, 1) := by decide +kernel
theorem dX7_drums_190 : decode cX7_drums 190 = .ok (.iload_n 2, 1) := by decide +kernel
theorem dX7_drums_191 : decode cX7_drums 191 = .ok (.if_icmp .gt 7, 3) := by decide +kernel
theorem dX7_drums_194 : decode cX7_drums 194 = .ok (.iconst 1, 1) := by decide +kernel
theorem dX7_drums_195 : decode cX7_drums 195 = .ok (.goto 4, 3) := by decide +kernel
theorem dX7_drums_198 : decode cX7_drums 198 = .ok (.iconst 0, 1) := by decide +kernel
theorem dX7_drums_199 : decode cX7_drums 199 = .ok (.istore 8, 2) := by decide +kernel
theorem dX7_drums_201 : decode cX7_drums 201 = .ok (.iload 8, 2) := by decide +kernel
theorem dX7_drums_203 : decode cX7_drums 203 = .ok (.ifCond .eq 11, 3) := by decide +kernel
theorem dX7_drums_206 : decode cX7_drums 206 = .ok (.iload 6, 2) := by decide +kernel
theorem dX7_drums_208 : decode cX7_drums 208 = .ok (.iload 7, 2) := by decide +kernel
theorem dX7_drums_210 : decode cX7_drums 210 = .ok (.iadd, 1) := by decide +kernel
theorem dX7_drums_211 : decode cX7_drums 211 = .ok (.goto 20, 3) := by decide +kernel
theorem dX7_drums_214 : decode cX7_drums 214 = .ok (.iload 6, 2) := by decide +kernel
theorem dX7_drums_216 : decode cX7_drums 216 = .ok (.sipush 1000, 3) := by decide +kernel
theorem dX7_drums_219 : decode cX7_drums 219 = .ok (.idiv, 1) := by decide +kernel
theorem dX7_drums_220 : decode cX7_drums 220 = .ok (.sipush 1000, 3) := by decide +kernel
theorem dX7_drums_223 : decode cX7_drums 223 = .ok (.imul, 1) := by decide +kernel
theorem dX7_drums_224 : decode cX7_drums 224 = .ok (.sipush 1000, 3) := by decide +kernel
theorem dX7_drums_227 : decode cX7_drums 227 = .ok (.iadd, 1) := by decide +kernel
theorem dX7_drums_228 : decode cX7_drums 228 = .ok (.iload 7, 2) := by decide +kernel
theorem dX7_drums_230 : decode cX7_drums 230 = .ok (.iadd, 1) := by decide +kernel
theorem dX7_drums_231 : decode cX7_drums 231 = .ok (.istore 9, 2) := by decide +kernel
theorem dX7_drums_233 : decode cX7_drums 233 = .ok (.aload_n 0, 1) := by decide +kernel
theorem dX7_drums_234 : decode cX7_drums 234 = .ok (.getfield 22, 3) := by decide +kernel
theorem dX7_drums_237 : decode cX7_drums 237 = .ok (.iload 4, 2) := by decide +kernel
theorem dX7_drums_239 : decode cX7_drums 239 = .ok (.iload 9, 2) := by decide +kernel
theorem dX7_drums_241 : decode cX7_drums 241 = .ok (.aload_n 0, 1) := by decide +kernel
theorem dX7_drums_242 : decode cX7_drums 242 = .ok (.getfield 22, 3) := by decide +kernel
theorem dX7_drums_245 : decode cX7_drums 245 = .ok (.iload 4, 2) := by decide +kernel
theorem dX7_drums_247 : decode cX7_drums 247 = .ok (.iaload, 1) := by decide +kernel
theorem dX7_drums_248 : decode cX7_drums 248 = .ok (.if_icmp .ge 8, 3) := by decide +kernel
theorem dX7_drums_251 : decode cX7_drums 251 = .ok (.iload 9, 2) := by decide +kernel
theorem dX7_drums_253 : decode cX7_drums 253 = .ok (.goto 10, 3) := by decide +kernel
theorem dX7_drums_256 : decode cX7_drums 256 = .ok (.aload_n 0, 1) := by decide +kernel
theorem dX7_drums_257 : decode cX7_drums 257 = .ok (.getfield 22, 3) := by decide +kernel
theorem dX7_drums_260 : decode cX7_drums 260 = .ok (.iload 4, 2) := by decide +kernel
theorem dX7_drums_262 : decode cX7_drums 262 = .ok (.iaload, 1) := by decide +kernel
theorem dX7_drums_263 : decode cX7_drums 263 = .ok (.iastore, 1) := by decide +kernel
theorem dX7_drums_264 : decode cX7_drums 264 = .ok (.iinc 5 1, 3) := by decide +kernel
theorem dX7_drums_267 : decode cX7_drums 267 = .ok (.goto (-149), 3) := by decide +kernel
theorem dX7_drums_270 : decode cX7_drums 270 = .ok (.iinc 4 1, 3) := by decide +kernel
theorem dX7_drums_273 : decode cX7_drums 273 = .ok (.goto (-173), 3) := by decide +kernel
theorem dX7_drums_276 : decode cX7_drums 276 = .ok (.aload_n 0, 1) := by decide +kernel
theorem dX7_drums_277 : decode cX7_drums 277 = .ok (.getfield 22, 3) := by decide +kernel
theorem dX7_drums_280 : decode cX7_drums 280 = .ok (.iload_n 1, 1) := by decide +kernel
theorem dX7_drums_281 : decode cX7_drums 281 = .ok (.iaload, 1) := by decide +kernel
theorem dX7_drums_282 : decode cX7_drums 282 = .ok (.sipush 1000, 3) := by decide +kernel
theorem dX7_drums_285 : decode cX7_drums 285 = .ok (.idiv, 1) := by decide +kernel
theorem dX7_drums_286 : decode cX7_drums 286 = .ok (.ireturn, 1) := by decide +kernel
theorem dX7_findLine_0 : decode cX7_findLine 0 = .ok (.aload_n 0, 1) := by decide +kernel
theorem dX7_findLine_1 : decode cX7_findLine 1 = .ok (.iconst 0, 1) := by decide +kernel
theorem dX7_findLine_2 : decode cX7_findLine 2 = .ok (.putfield 204, 3) := by decide +kernel
theorem dX7_findLine_5 : decode cX7_findLine 5 = .ok (.iconst 1, 1) := by decide +kernel
theorem dX7_findLine_6 : decode cX7_findLine 6 = .ok (.istore_n 1, 1) := by decide +kernel
theorem dX7_findLine_7 : decode cX7_findLine 7 = .ok (.iload_n 1, 1) := by decide +kernel
theorem dX7_findLine_8 : decode cX7_findLine 8 = .ok (.bipush 100, 2) := by decide +kernel
theorem dX7_findLine_10 : decode cX7_findLine 10 = .ok (.if_icmp .ge 78, 3) := by decide +kernel
theorem dX7_findLine_13 : decode cX7_findLine 13 = .ok (.iconst 0, 1) := by decide +kernel
theorem dX7_findLine_14 : decode cX7_findLine 14 = .ok (.istore_n 2, 1) := by decide +kernel
theorem dX7_findLine_15 : decode cX7_findLine 15 = .ok (.iload_n 2, 1) := by decide +kernel
theorem dX7_findLine_16 : decode cX7_findLine 16 = .ok (.aload_n 0, 1) := by decide +kernel
theorem dX7_findLine_17 : decode cX7_findLine 17 = .ok (.getfield 7, 3) := by decide +kernel
theorem dX7_findLine_20 : decode cX7_findLine 20 = .ok (.iconst 1, 1) := by decide +kernel
theorem dX7_findLine_21 : decode cX7_findLine 21 = .ok (.iaload, 1) := by decide +kernel
theorem dX7_findLine_22 : decode cX7_findLine 22 = .ok (.if_icmp .ge 60, 3) := by decide +kernel
theorem dX7_findLine_25 : decode cX7_findLine 25 = .ok (.aload_n 0, 1) := by decide +kernel
theorem dX7_findLine_26 : decode cX7_findLine 26 = .ok (.iload_n 2, 1) := by decide +kernel
theorem dX7_findLine_27 : decode cX7_findLine 27 = .ok (.bipush 6, 2) := by decide +kernel
theorem dX7_findLine_29 : decode cX7_findLine 29 = .ok (.invokevirtual 89, 3) := by decide +kernel
theorem dX7_findLine_32 : decode cX7_findLine 32 = .ok (.ifCond .ne 44, 3) := by decide +kernel
theorem dX7_findLine_35 : decode cX7_findLine 35 = .ok (.aload_n 0, 1) := by decide +kernel
theorem dX7_findLine_36 : decode cX7_findLine 36 = .ok (.iload_n 2, 1) := by decide +kernel
theorem dX7_findLine_37 : decode cX7_findLine 37 = .ok (.iconst 4, 1) := by decide +kernel
theorem dX7_findLine_38 : decode cX7_findLine 38 = .ok (.invokevirtual 89, 3) := by decide +kernel
theorem dX7_findLine_41 : decode cX7_findLine 41 = .ok (.bipush 30, 2) := by decide +kernel
theorem dX7_findLine_43 : decode cX7_findLine 43 = .ok (.if_icmp .ne 33, 3) := by decide +kernel
theorem dX7_findLine_46 : decode cX7_findLine 46 = .ok (.aload_n 0, 1) := by decide +kernel
theorem dX7_findLine_47 : decode cX7_findLine 47 = .ok (.iload_n 2, 1) := by decide +kernel
theorem dX7_findLine_48 : decode cX7_findLine 48 = .ok (.iconst 1, 1) := by decide +kernel
theorem dX7_findLine_49 : decode cX7_findLine 49 = .ok (.invokevirtual 89, 3) := by decide +kernel
theorem dX7_findLine_52 : decode cX7_findLine 52 = .ok (.iload_n 1, 1) := by decide +kernel
theorem dX7_findLine_53 : decode cX7_findLine 53 = .ok (.if_icmp .ne 23, 3) := by decide +kernel
theorem dX7_findLine_56 : decode cX7_findLine 56 = .ok (.aload_n 0, 1) := by decide +kernel
theorem dX7_findLine_57 : decode cX7_findLine 57 = .ok (.getfield 25, 3) := by decide +kernel
theorem dX7_findLine_60 : decode cX7_findLine 60 = .ok (.aload_n 0, 1) := by decide +kernel
theorem dX7_findLine_61 : decode cX7_findLine 61 = .ok (.getfield 204, 3) := by decide +kernel
theorem dX7_findLine_64 : decode cX7_findLine 64 = .ok (.iload_n 2, 1) := by decide +kernel
theorem dX7_findLine_65 : decode cX7_findLine 65 = .ok (.iastore, 1) := by decide +kernel
theorem dX7_findLine_66 : decode cX7_findLine 66 = .ok (.aload_n 0, 1) := by decide +kernel
theorem dX7_findLine_67 : decode cX7_findLine 67 = .ok (.dup, 1) := by decide +kernel
theorem dX7_findLine_68 : decode cX7_findLine 68 = .ok (.getfield 204, 3) := by decide +kernel
theorem dX7_findLine_71 : decode cX7_findLine 71 = .ok (.iconst 1, 1) := by decide +kernel
theorem dX7_findLine_72 : decode cX7_findLine 72 = .ok (.iadd, 1) := by decide +kernel
theorem dX7_findLine_73 : decode cX7_findLine 73 = .ok (.putfield 204, 3) := by decide +kernel
theorem dX7_findLine_76 : decode cX7_findLine 76 = .ok (.iinc 2 1, 3) := by decide +kernel
theorem dX7_findLine_79 : decode cX7_findLine 79 = .ok (.goto (-64), 3) := by decide +kernel
theorem dX7_findLine_82 : decode cX7_findLine 82 = .ok (.iinc 1 1, 3) := by decide +kernel
theorem dX7_findLine_85 : decode cX7_findLine 85 = .ok (.goto (-78), 3) := by decide +kernel
theorem dX7_findLine_88 : decode cX7_findLine 88 = .ok (.return_, 1) := by decide +kernel
theorem dX7_minutesUp_0 : decode cX7_minutesUp 0 = .ok (.aload_n 0, 1) := by decide +kernel
theorem dX7_minutesUp_1 : decode cX7_minutesUp 1 = .ok (.iload_n 1, 1) := by decide +kernel
theorem dX7_minutesUp_2 : decode cX7_minutesUp 2 = .ok (.iconst 1, 1) := by decide +kernel
theorem dX7_minutesUp_3 : decode cX7_minutesUp 3 = .ok (.invokevirtual 89, 3) := by decide +kernel
theorem dX7_minutesUp_6 : decode cX7_minutesUp 6 = .ok (.bipush 10, 2) := by decide +kernel
theorem dX7_minutesUp_8 : decode cX7_minutesUp 8 = .ok (.idiv, 1) := by decide +kernel
theorem dX7_minutesUp_9 : decode cX7_minutesUp 9 = .ok (.iconst 1, 1) := by decide +kernel
theorem dX7_minutesUp_10 : decode cX7_minutesUp 10 = .ok (.iadd, 1) := by decide +kernel
theorem dX7_minutesUp_11 : decode cX7_minutesUp 11 = .ok (.ireturn, 1) := by decide +kernel
theorem dX7_waits_0 : decode cX7_waits 0 = .ok (.iconst 0, 1) := by decide +kernel
theorem dX7_waits_1 : decode cX7_waits 1 = .ok (.istore_n 1, 1) := by decide +kernel
theorem dX7_waits_2 : decode cX7_waits 2 = .ok (.iconst 0, 1) := by decide +kernel
theorem dX7_waits_3 : decode cX7_waits 3 = .ok (.istore_n 2, 1) := by decide +kernel
theorem dX7_waits_4 : decode cX7_waits 4 = .ok (.iconst 0, 1) := by decide +kernel
theorem dX7_waits_5 : decode cX7_waits 5 = .ok (.istore_n 3, 1) := by decide +kernel
theorem dX7_waits_6 : decode cX7_waits 6 = .ok (.iload_n 3, 1) := by decide +kernel
theorem dX7_waits_7 : decode cX7_waits 7 = .ok (.aload_n 0, 1) := by decide +kernel
theorem dX7_waits_8 : decode cX7_waits 8 = .ok (.getfield 7, 3) := by decide +kernel
theorem dX7_waits_11 : decode cX7_waits 11 = .ok (.iconst 1, 1) := by decide +kernel
theorem dX7_waits_12 : decode cX7_waits 12 = .ok (.iaload, 1) := by decide +kernel
theorem dX7_waits_13 : decode cX7_waits 13 = .ok (.if_icmp .ge 42, 3) := by decide +kernel
theorem dX7_waits_16 : decode cX7_waits 16 = .ok (.aload_n 0, 1) := by decide +kernel
theorem dX7_waits_17 : decode cX7_waits 17 = .ok (.iload_n 3, 1) := by decide +kernel
theorem dX7_waits_18 : decode cX7_waits 18 = .ok (.bipush 6, 2) := by decide +kernel
theorem dX7_waits_20 : decode cX7_waits 20 = .ok (.invokevirtual 89, 3) := by decide +kernel
theorem dX7_waits_23 : decode cX7_waits 23 = .ok (.ifCond .ne 26, 3) := by decide +kernel
theorem dX7_waits_26 : decode cX7_waits 26 = .ok (.aload_n 0, 1) := by decide +kernel
theorem dX7_waits_27 : decode cX7_waits 27 = .ok (.iload_n 3, 1) := by decide +kernel
theorem dX7_waits_28 : decode cX7_waits 28 = .ok (.iconst 4, 1) := by decide +kernel
theorem dX7_waits_29 : decode cX7_waits 29 = .ok (.invokevirtual 89, 3) := by decide +kernel
theorem dX7_waits_32 : decode cX7_waits 32 = .ok (.bipush 30, 2) := by decide +kernel
theorem dX7_waits_34 : decode cX7_waits 34 = .ok (.if_icmp .ne 15, 3) := by decide +kernel
theorem dX7_waits_37 : decode cX7_waits 37 = .ok (.iload_n 2, 1) := by decide +kernel
theorem dX7_waits_38 : decode cX7_waits 38 = .ok (.aload_n 0, 1) := by decide +kernel
theorem dX7_waits_39 : decode cX7_waits 39 = .ok (.iload_n 3, 1) := by decide +kernel
theorem dX7_waits_40 : decode cX7_waits 40 = .ok (.invokevirtual 207, 3) := by decide +kernel
theorem dX7_waits_43 : decode cX7_waits 43 = .ok (.iadd, 1) := by decide +kernel
theorem dX7_waits_44 : decode cX7_waits 44 = .ok (.istore_n 2, 1) := by decide +kernel
theorem dX7_waits_45 : decode cX7_waits 45 = .ok (.iload_n 1, 1) := by decide +kernel
theorem dX7_waits_46 : decode cX7_waits 46 = .ok (.iload_n 2, 1) := by decide +kernel
theorem dX7_waits_47 : decode cX7_waits 47 = .ok (.iadd, 1) := by decide +kernel
theorem dX7_waits_48 : decode cX7_waits 48 = .ok (.istore_n 1, 1) := by decide +kernel
theorem dX7_waits_49 : decode cX7_waits 49 = .ok (.iinc 3 1, 3) := by decide +kernel
theorem dX7_waits_52 : decode cX7_waits 52 = .ok (.goto (-46), 3) := by decide +kernel
theorem dX7_waits_55 : decode cX7_waits 55 = .ok (.iload_n 1, 1) := by decide +kernel
theorem dX7_waits_56 : decode cX7_waits 56 = .ok (.ireturn, 1) := by decide +kernel
theorem dX7_least_0 : decode cX7_least 0 = .ok (.aload_n 0, 1) := by decide +kernel
theorem dX7_least_1 : decode cX7_least 1 = .ok (.invokevirtual 210, 3) := by decide +kernel
theorem dX7_least_4 : decode cX7_least 4 = .ok (.iconst 0, 1) := by decide +kernel
theorem dX7_least_5 : decode cX7_least 5 = .ok (.istore_n 1, 1) := by decide +kernel
theorem dX7_least_6 : decode cX7_least 6 = .ok (.iconst 0, 1) := by decide +kernel
theorem dX7_least_7 : decode cX7_least 7 = .ok (.istore_n 2, 1) := by decide +kernel
theorem dX7_least_8 : decode cX7_least 8 = .ok (.iconst 0, 1) := by decide +kernel
theorem dX7_least_9 : decode cX7_least 9 = .ok (.istore_n 3, 1) := by decide +kernel
theorem dX7_least_10 : decode cX7_least 10 = .ok (.iload_n 3, 1) := by decide +kernel
theorem dX7_least_11 : decode cX7_least 11 = .ok (.aload_n 0, 1) := by decide +kernel
theorem dX7_least_12 : decode cX7_least 12 = .ok (.getfield 204, 3) := by decide +kernel
theorem dX7_least_15 : decode cX7_least 15 = .ok (.if_icmp .ge 26, 3) := by decide +kernel
theorem dX7_least_18 : decode cX7_least 18 = .ok (.iload_n 2, 1) := by decide +kernel
theorem dX7_least_19 : decode cX7_least 19 = .ok (.aload_n 0, 1) := by decide +kernel
theorem dX7_least_20 : decode cX7_least 20 = .ok (.aload_n 0, 1) := by decide +kernel
theorem dX7_least_21 : decode cX7_least 21 = .ok (.getfield 25, 3) := by decide +kernel
theorem dX7_least_24 : decode cX7_least 24 = .ok (.iload_n 3, 1) := by decide +kernel
theorem dX7_least_25 : decode cX7_least 25 = .ok (.iaload, 1) := by decide +kernel
theorem dX7_least_26 : decode cX7_least 26 = .ok (.invokevirtual 207, 3) := by decide +kernel
theorem dX7_least_29 : decode cX7_least 29 = .ok (.iadd, 1) := by decide +kernel
theorem dX7_least_30 : decode cX7_least 30 = .ok (.istore_n 2, 1) := by decide +kernel
theorem dX7_least_31 : decode cX7_least 31 = .ok (.iload_n 1, 1) := by decide +kernel
theorem dX7_least_32 : decode cX7_least 32 = .ok (.iload_n 2, 1) := by decide +kernel
theorem dX7_least_33 : decode cX7_least 33 = .ok (.iadd, 1) := by decide +kernel
theorem dX7_least_34 : decode cX7_least 34 = .ok (.istore_n 1, 1) := by decide +kernel
theorem dX7_least_35 : decode cX7_least 35 = .ok (.iinc 3 1, 3) := by decide +kernel
theorem dX7_least_38 : decode cX7_least 38 = .ok (.goto (-28), 3) := by decide +kernel
theorem dX7_least_41 : decode cX7_least 41 = .ok (.iload_n 1, 1) := by decide +kernel
theorem dX7_least_42 : decode cX7_least 42 = .ok (.ireturn, 1) := by decide +kernel
theorem dX7_order_0 : decode cX7_order 0 = .ok (.iload_n 1, 1) := by decide +kernel
theorem dX7_order_1 : decode cX7_order 1 = .ok (.i2l, 1) := by decide +kernel
theorem dX7_order_2 : decode cX7_order 2 = .ok (.lconst 0, 1) := by decide +kernel
theorem dX7_order_3 : decode cX7_order 3 = .ok (.ldc2_w 57, 3) := by decide +kernel
theorem dX7_order_6 : decode cX7_order 6 = .ok (.invokestatic 46, 3) := by decide +kernel
theorem dX7_order_9 : decode cX7_order 9 = .ok (.ifCond .ne 10, 3) := by decide +kernel
theorem dX7_order_12 : decode cX7_order 12 = .ok (.aload_n 0, 1) := by decide +kernel
theorem dX7_order_13 : decode cX7_order 13 = .ok (.ldc 43, 2) := by decide +kernel
theorem dX7_order_15 : decode cX7_order 15 = .ok (.invokevirtual 59, 3) := by decide +kernel
theorem dX7_order_18 : decode cX7_order 18 = .ok (.ireturn, 1) := by decide +kernel
theorem dX7_order_19 : decode cX7_order 19 = .ok (.aload_n 0, 1) := by decide +kernel
theorem dX7_order_20 : decode cX7_order 20 = .ok (.invokevirtual 210, 3) := by decide +kernel
theorem dX7_order_23 : decode cX7_order 23 = .ok (.iload_n 1, 1) := by decide +kernel
theorem dX7_order_24 : decode cX7_order 24 = .ok (.aload_n 0, 1) := by decide +kernel
theorem dX7_order_25 : decode cX7_order 25 = .ok (.getfield 204, 3) := by decide +kernel
theorem dX7_order_28 : decode cX7_order 28 = .ok (.if_icmp .ge 12, 3) := by decide +kernel
theorem dX7_order_31 : decode cX7_order 31 = .ok (.aload_n 0, 1) := by decide +kernel
theorem dX7_order_32 : decode cX7_order 32 = .ok (.getfield 25, 3) := by decide +kernel
theorem dX7_order_35 : decode cX7_order 35 = .ok (.iload_n 1, 1) := by decide +kernel
theorem dX7_order_36 : decode cX7_order 36 = .ok (.iaload, 1) := by decide +kernel
theorem dX7_order_37 : decode cX7_order 37 = .ok (.goto 9, 3) := by decide +kernel
theorem dX7_order_40 : decode cX7_order 40 = .ok (.aload_n 0, 1) := by decide +kernel
theorem dX7_order_41 : decode cX7_order 41 = .ok (.ldc 157, 2) := by decide +kernel
theorem dX7_order_43 : decode cX7_order 43 = .ok (.invokevirtual 59, 3) := by decide +kernel
theorem dX7_order_46 : decode cX7_order 46 = .ok (.ireturn, 1) := by decide +kernel
theorem dX7_wheel_0 : decode cX7_wheel 0 = .ok (.iload_n 1, 1) := by decide +kernel
theorem dX7_wheel_1 : decode cX7_wheel 1 = .ok (.i2l, 1) := by decide +kernel
theorem dX7_wheel_2 : decode cX7_wheel 2 = .ok (.lconst 1, 1) := by decide +kernel
theorem dX7_wheel_3 : decode cX7_wheel 3 = .ok (.ldc2_w 201, 3) := by decide +kernel
theorem dX7_wheel_6 : decode cX7_wheel 6 = .ok (.invokestatic 46, 3) := by decide +kernel
theorem dX7_wheel_9 : decode cX7_wheel 9 = .ok (.ifCond .ne 10, 3) := by decide +kernel
theorem dX7_wheel_12 : decode cX7_wheel 12 = .ok (.aload_n 0, 1) := by decide +kernel
theorem dX7_wheel_13 : decode cX7_wheel 13 = .ok (.ldc 43, 2) := by decide +kernel
theorem dX7_wheel_15 : decode cX7_wheel 15 = .ok (.invokevirtual 59, 3) := by decide +kernel
theorem dX7_wheel_18 : decode cX7_wheel 18 = .ok (.ireturn, 1) := by decide +kernel
theorem dX7_wheel_19 : decode cX7_wheel 19 = .ok (.aload_n 0, 1) := by decide +kernel
theorem dX7_wheel_20 : decode cX7_wheel 20 = .ok (.invokevirtual 210, 3) := by decide +kernel
theorem dX7_wheel_23 : decode cX7_wheel 23 = .ok (.iload_n 1, 1) := by decide +kernel
theorem dX7_wheel_24 : decode cX7_wheel 24 = .ok (.istore_n 2, 1) := by decide +kernel
theorem dX7_wheel_25 : decode cX7_wheel 25 = .ok (.iconst 0, 1) := by decide +kernel
theorem dX7_wheel_26 : decode cX7_wheel 26 = .ok (.istore_n 3, 1) := by decide +kernel
theorem dX7_wheel_27 : decode cX7_wheel 27 = .ok (.iload_n 3, 1) := by decide +kernel
theorem dX7_wheel_28 : decode cX7_wheel 28 = .ok (.aload_n 0, 1) := by decide +kernel
theorem dX7_wheel_29 : decode cX7_wheel 29 = .ok (.getfield 204, 3) := by decide +kernel
theorem dX7_wheel_32 : decode cX7_wheel 32 = .ok (.if_icmp .ge 53, 3) := by decide +kernel
theorem dX7_wheel_35 : decode cX7_wheel 35 = .ok (.aload_n 0, 1) := by decide +kernel
theorem dX7_wheel_36 : decode cX7_wheel 36 = .ok (.aload_n 0, 1) := by decide +kernel
theorem dX7_wheel_37 : decode cX7_wheel 37 = .ok (.getfield 25, 3) := by decide +kernel
theorem dX7_wheel_40 : decode cX7_wheel 40 = .ok (.iload_n 3, 1) := by decide +kernel
theorem dX7_wheel_41 : decode cX7_wheel 41 = .ok (.iaload, 1) := by decide +kernel
theorem dX7_wheel_42 : decode cX7_wheel 42 = .ok (.invokevirtual 207, 3) := by decide +kernel
theorem dX7_wheel_45 : decode cX7_wheel 45 = .ok (.iload_n 2, 1) := by decide +kernel
theorem dX7_wheel_46 : decode cX7_wheel 46 = .ok (.if_icmp .gt 39, 3) := by decide +kernel
theorem dX7_wheel_49 : decode cX7_wheel 49 = .ok (.iload_n 2, 1) := by decide +kernel
theorem dX7_wheel_50 : decode cX7_wheel 50 = .ok (.aload_n 0, 1) := by decide +kernel
theorem dX7_wheel_51 : decode cX7_wheel 51 = .ok (.aload_n 0, 1) := by decide +kernel
theorem dX7_wheel_52 : decode cX7_wheel 52 = .ok (.getfield 25, 3) := by decide +kernel
theorem dX7_wheel_55 : decode cX7_wheel 55 = .ok (.iload_n 3, 1) := by decide +kernel
theorem dX7_wheel_56 : decode cX7_wheel 56 = .ok (.iaload, 1) := by decide +kernel
theorem dX7_wheel_57 : decode cX7_wheel 57 = .ok (.invokevirtual 207, 3) := by decide +kernel
theorem dX7_wheel_60 : decode cX7_wheel 60 = .ok (.isub, 1) := by decide +kernel
theorem dX7_wheel_61 : decode cX7_wheel 61 = .ok (.istore_n 2, 1) := by decide +kernel
theorem dX7_wheel_62 : decode cX7_wheel 62 = .ok (.aload_n 0, 1) := by decide +kernel
theorem dX7_wheel_63 : decode cX7_wheel 63 = .ok (.getfield 7, 3) := by decide +kernel
theorem dX7_wheel_66 : decode cX7_wheel 66 = .ok (.aload_n 0, 1) := by decide +kernel
theorem dX7_wheel_67 : decode cX7_wheel 67 = .ok (.getfield 25, 3) := by decide +kernel
theorem dX7_wheel_70 : decode cX7_wheel 70 = .ok (.iload_n 3, 1) := by decide +kernel
theorem dX7_wheel_71 : decode cX7_wheel 71 = .ok (.iaload, 1) := by decide +kernel
theorem dX7_wheel_72 : decode cX7_wheel 72 = .ok (.bipush 6, 2) := by decide +kernel
theorem dX7_wheel_74 : decode cX7_wheel 74 = .ok (.invokestatic 72, 3) := by decide +kernel
theorem dX7_wheel_77 : decode cX7_wheel 77 = .ok (.iconst 3, 1) := by decide +kernel
theorem dX7_wheel_78 : decode cX7_wheel 78 = .ok (.iastore, 1) := by decide +kernel
theorem dX7_wheel_79 : decode cX7_wheel 79 = .ok (.iinc 3 1, 3) := by decide +kernel
theorem dX7_wheel_82 : decode cX7_wheel 82 = .ok (.goto (-55), 3) := by decide +kernel
theorem dX7_wheel_85 : decode cX7_wheel 85 = .ok (.iload_n 3, 1) := by decide +kernel
theorem dX7_wheel_86 : decode cX7_wheel 86 = .ok (.ireturn, 1) := by decide +kernel
theorem dX7_odds_0 : decode cX7_odds 0 = .ok (.aload_n 0, 1) := by decide +kernel
theorem dX7_odds_1 : decode cX7_odds 1 = .ok (.iload_n 1, 1) := by decide +kernel
theorem dX7_odds_2 : decode cX7_odds 2 = .ok (.invokevirtual 92, 3) := by decide +kernel
theorem dX7_odds_5 : decode cX7_odds 5 = .ok (.ifCond .eq 15, 3) := by decide +kernel
theorem dX7_odds_8 : decode cX7_odds 8 = .ok (.iload_n 2, 1) := by decide +kernel
theorem dX7_odds_9 : decode cX7_odds 9 = .ok (.i2l, 1) := by decide +kernel
theorem dX7_odds_10 : decode cX7_odds 10 = .ok (.lconst 1, 1) := by decide +kernel
theorem dX7_odds_11 : decode cX7_odds 11 = .ok (.ldc2_w 213, 3) := by decide +kernel
theorem dX7_odds_14 : decode cX7_odds 14 = .ok (.invokestatic 46, 3) := by decide +kernel
theorem dX7_odds_17 : decode cX7_odds 17 = .ok (.ifCond .ne 10, 3) := by decide +kernel
theorem dX7_odds_20 : decode cX7_odds 20 = .ok (.aload_n 0, 1) := by decide +kernel
theorem dX7_odds_21 : decode cX7_odds 21 = .ok (.ldc 43, 2) := by decide +kernel
theorem dX7_odds_23 : decode cX7_odds 23 = .ok (.invokevirtual 59, 3) := by decide +kernel
theorem dX7_odds_26 : decode cX7_odds 26 = .ok (.ireturn, 1) := by decide +kernel
theorem dX7_odds_27 : decode cX7_odds 27 = .ok (.aload_n 0, 1) := by decide +kernel
theorem dX7_odds_28 : decode cX7_odds 28 = .ok (.iload_n 1, 1) := by decide +kernel
theorem dX7_odds_29 : decode cX7_odds 29 = .ok (.invokevirtual 106, 3) := by decide +kernel
theorem dX7_odds_32 : decode cX7_odds 32 = .ok (.ifCond .eq 13, 3) := by decide +kernel
theorem dX7_odds_35 : decode cX7_odds 35 = .ok (.aload_n 0, 1) := by decide +kernel
theorem dX7_odds_36 : decode cX7_odds 36 = .ok (.sipush 200, 3) := by decide +kernel
theorem dX7_odds_39 : decode cX7_odds 39 = .ok (.invokevirtual 132, 3) := by decide +kernel
theorem dX7_odds_42 : decode cX7_odds 42 = .ok (.ifCond .eq 10, 3) := by decide +kernel
theorem dX7_odds_45 : decode cX7_odds 45 = .ok (.aload_n 0, 1) := by decide +kernel
theorem dX7_odds_46 : decode cX7_odds 46 = .ok (.ldc 109, 2) := by decide +kernel
theorem dX7_odds_48 : decode cX7_odds 48 = .ok (.invokevirtual 59, 3) := by decide +kernel
theorem dX7_odds_51 : decode cX7_odds 51 = .ok (.ireturn, 1) := by decide +kernel
theorem dX7_odds_52 : decode cX7_odds 52 = .ok (.iconst 0, 1) := by decide +kernel
theorem dX7_odds_53 : decode cX7_odds 53 = .ok (.istore_n 3, 1) := by decide +kernel
theorem dX7_odds_54 : decode cX7_odds 54 = .ok (.iconst 0, 1) := by decide +kernel
theorem dX7_odds_55 : decode cX7_odds 55 = .ok (.istore 4, 2) := by decide +kernel
theorem dX7_odds_57 : decode cX7_odds 57 = .ok (.iload 4, 2) := by decide +kernel
theorem dX7_odds_59 : decode cX7_odds 59 = .ok (.iload_n 2, 1) := by decide +kernel
theorem dX7_odds_60 : decode cX7_odds 60 = .ok (.if_icmp .ge 40, 3) := by decide +kernel
theorem dX7_odds_63 : decode cX7_odds 63 = .ok (.aload_n 0, 1) := by decide +kernel
theorem dX7_odds_64 : decode cX7_odds 64 = .ok (.iload_n 1, 1) := by decide +kernel
theorem dX7_odds_65 : decode cX7_odds 65 = .ok (.bipush 10, 2) := by decide +kernel
theorem dX7_odds_67 : decode cX7_odds 67 = .ok (.aload_n 0, 1) := by decide +kernel
theorem dX7_odds_68 : decode cX7_odds 68 = .ok (.invokevirtual 215, 3) := by decide +kernel
theorem dX7_odds_71 : decode cX7_odds 71 = .ok (.bipush 30, 2) := by decide +kernel
theorem dX7_odds_73 : decode cX7_odds 73 = .ok (.irem, 1) := by decide +kernel
theorem dX7_odds_74 : decode cX7_odds 74 = .ok (.iadd, 1) := by decide +kernel
theorem dX7_odds_75 : decode cX7_odds 75 = .ok (.invokevirtual 173, 3) := by decide +kernel
theorem dX7_odds_78 : decode cX7_odds 78 = .ok (.iload_n 3, 1) := by decide +kernel
theorem dX7_odds_79 : decode cX7_odds 79 = .ok (.aload_n 0, 1) := by decide +kernel
theorem dX7_odds_80 : decode cX7_odds 80 = .ok (.getfield 167, 3) := by decide +kernel
theorem dX7_odds_83 : decode cX7_odds 83 = .ok (.iconst 2, 1) := by decide +kernel
theorem dX7_odds_84 : decode cX7_odds 84 = .ok (.if_icmp .ne 7, 3) := by decide +kernel
theorem dX7_odds_87 : decode cX7_odds 87 = .ok (.iconst 1, 1) := by decide +kernel
theorem dX7_odds_88 : decode cX7_odds 88 = .ok (.goto 4, 3) := by decide +kernel
theorem dX7_odds_91 : decode cX7_odds 91 = .ok (.iconst 0, 1) := by decide +kernel
theorem dX7_odds_92 : decode cX7_odds 92 = .ok (.iadd, 1) := by decide +kernel
theorem dX7_odds_93 : decode cX7_odds 93 = .ok (.istore_n 3, 1) := by decide +kernel
theorem dX7_odds_94 : decode cX7_odds 94 = .ok (.iinc 4 1, 3) := by decide +kernel
theorem dX7_odds_97 : decode cX7_odds 97 = .ok (.goto (-40), 3) := by decide +kernel
theorem dX7_odds_100 : decode cX7_odds 100 = .ok (.iload_n 3, 1) := by decide +kernel
theorem dX7_odds_101 : decode cX7_odds 101 = .ok (.ireturn, 1) := by decide +kernel
theorem dX7_worst_0 : decode cX7_worst 0 = .ok (.iconst (-1), 1) := by decide +kernel
theorem dX7_worst_1 : decode cX7_worst 1 = .ok (.istore_n 1, 1) := by decide +kernel
theorem dX7_worst_2 : decode cX7_worst 2 = .ok (.iconst 0, 1) := by decide +kernel
theorem dX7_worst_3 : decode cX7_worst 3 = .ok (.istore_n 2, 1) := by decide +kernel
theorem dX7_worst_4 : decode cX7_worst 4 = .ok (.iconst 0, 1) := by decide +kernel
theorem dX7_worst_5 : decode cX7_worst 5 = .ok (.istore_n 3, 1) := by decide +kernel
theorem dX7_worst_6 : decode cX7_worst 6 = .ok (.iload_n 3, 1) := by decide +kernel
theorem dX7_worst_7 : decode cX7_worst 7 = .ok (.aload_n 0, 1) := by decide +kernel
theorem dX7_worst_8 : decode cX7_worst 8 = .ok (.getfield 7, 3) := by decide +kernel
theorem dX7_worst_11 : decode cX7_worst 11 = .ok (.iconst 1, 1) := by decide +kernel
theorem dX7_worst_12 : decode cX7_worst 12 = .ok (.iaload, 1) := by decide +kernel
theorem dX7_worst_13 : decode cX7_worst 13 = .ok (.if_icmp .ge 49, 3) := by decide +kernel
theorem dX7_worst_16 : decode cX7_worst 16 = .ok (.aload_n 0, 1) := by decide +kernel
theorem dX7_worst_17 : decode cX7_worst 17 = .ok (.iload_n 3, 1) := by decide +kernel
theorem dX7_worst_18 : decode cX7_worst 18 = .ok (.bipush 7, 2) := by decide +kernel
theorem dX7_worst_20 : decode cX7_worst 20 = .ok (.invokevirtual 89, 3) := by decide +kernel
theorem dX7_worst_23 : decode cX7_worst 23 = .ok (.iload_n 2, 1) := by decide +kernel
theorem dX7_worst_24 : decode cX7_worst 24 = .ok (.if_icmp .le 7, 3) := by decide +kernel
theorem dX7_worst_27 : decode cX7_worst 27 = .ok (.iload_n 3, 1) := by decide +kernel
theorem dX7_worst_28 : decode cX7_worst 28 = .ok (.goto 4, 3) := by decide +kernel
theorem dX7_worst_31 : decode cX7_worst 31 = .ok (.iload_n 1, 1) := by decide +kernel
theorem dX7_worst_32 : decode cX7_worst 32 = .ok (.istore_n 1, 1) := by decide +kernel
theorem dX7_worst_33 : decode cX7_worst 33 = .ok (.aload_n 0, 1) := by decide +kernel
theorem dX7_worst_34 : decode cX7_worst 34 = .ok (.iload_n 3, 1) := by decide +kernel
theorem dX7_worst_35 : decode cX7_worst 35 = .ok (.bipush 7, 2) := by decide +kernel
theorem dX7_worst_37 : decode cX7_worst 37 = .ok (.invokevirtual 89, 3) := by decide +kernel
theorem dX7_worst_40 : decode cX7_worst 40 = .ok (.iload_n 2, 1) := by decide +kernel
theorem dX7_worst_41 : decode cX7_worst 41 = .ok (.if_icmp .le 13, 3) := by decide +kernel
theorem dX7_worst_44 : decode cX7_worst 44 = .ok (.aload_n 0, 1) := by decide +kernel
theorem dX7_worst_45 : decode cX7_worst 45 = .ok (.iload_n 3, 1) := by decide +kernel
theorem dX7_worst_46 : decode cX7_worst 46 = .ok (.bipush 7, 2) := by decide +kernel
theorem dX7_worst_48 : decode cX7_worst 48 = .ok (.invokevirtual 89, 3) := by decide +kernel
theorem dX7_worst_51 : decode cX7_worst 51 = .ok (.goto 4, 3) := by decide +kernel
theorem dX7_worst_54 : decode cX7_worst 54 = .ok (.iload_n 2, 1) := by decide +kernel
theorem dX7_worst_55 : decode cX7_worst 55 = .ok (.istore_n 2, 1) := by decide +kernel
theorem dX7_worst_56 : decode cX7_worst 56 = .ok (.iinc 3 1, 3) := by decide +kernel
theorem dX7_worst_59 : decode cX7_worst 59 = .ok (.goto (-53), 3) := by decide +kernel
theorem dX7_worst_62 : decode cX7_worst 62 = .ok (.iload_n 1, 1) := by decide +kernel
theorem dX7_worst_63 : decode cX7_worst 63 = .ok (.ifCond .ge 12, 3) := by decide +kernel
theorem dX7_worst_66 : decode cX7_worst 66 = .ok (.aload_n 0, 1) := by decide +kernel
theorem dX7_worst_67 : decode cX7_worst 67 = .ok (.ldc 157, 2) := by decide +kernel
theorem dX7_worst_69 : decode cX7_worst 69 = .ok (.invokevirtual 59, 3) := by decide +kernel
theorem dX7_worst_72 : decode cX7_worst 72 = .ok (.goto 4, 3) := by decide +kernel
theorem dX7_worst_75 : decode cX7_worst 75 = .ok (.iload_n 1, 1) := by decide +kernel
theorem dX7_worst_76 : decode cX7_worst 76 = .ok (.ireturn, 1) := by decide +kernel
theorem dX7_seed_0 : decode cX7_seed 0 = .ok (.aload_n 0, 1) := by decide +kernel
theorem dX7_seed_1 : decode cX7_seed 1 = .ok (.getfield 7, 3) := by decide +kernel
theorem dX7_seed_4 : decode cX7_seed 4 = .ok (.iconst 4, 1) := by decide +kernel
theorem dX7_seed_5 : decode cX7_seed 5 = .ok (.iaload, 1) := by decide +kernel
theorem dX7_seed_6 : decode cX7_seed 6 = .ok (.istore_n 2, 1) := by decide +kernel
theorem dX7_seed_7 : decode cX7_seed 7 = .ok (.aload_n 0, 1) := by decide +kernel
theorem dX7_seed_8 : decode cX7_seed 8 = .ok (.getfield 7, 3) := by decide +kernel
theorem dX7_seed_11 : decode cX7_seed 11 = .ok (.iconst 4, 1) := by decide +kernel
theorem dX7_seed_12 : decode cX7_seed 12 = .ok (.iload_n 1, 1) := by decide +kernel
theorem dX7_seed_13 : decode cX7_seed 13 = .ok (.iastore, 1) := by decide +kernel
theorem dX7_seed_14 : decode cX7_seed 14 = .ok (.iload_n 2, 1) := by decide +kernel
theorem dX7_seed_15 : decode cX7_seed 15 = .ok (.ireturn, 1) := by decide +kernel
theorem dX7_feed_0 : decode cX7_feed 0 = .ok (.iload_n 2, 1) := by decide +kernel
theorem dX7_feed_1 : decode cX7_feed 1 = .ok (.i2l, 1) := by decide +kernel
theorem dX7_feed_2 : decode cX7_feed 2 = .ok (.lconst 1, 1) := by decide +kernel
theorem dX7_feed_3 : decode cX7_feed 3 = .ok (.ldc2_w 63, 3) := by decide +kernel
theorem dX7_feed_6 : decode cX7_feed 6 = .ok (.invokestatic 46, 3) := by decide +kernel
theorem dX7_feed_9 : decode cX7_feed 9 = .ok (.ifCond .ne 10, 3) := by decide +kernel
theorem dX7_feed_12 : decode cX7_feed 12 = .ok (.aload_n 0, 1) := by decide +kernel
theorem dX7_feed_13 : decode cX7_feed 13 = .ok (.ldc 43, 2) := by decide +kernel
theorem dX7_feed_15 : decode cX7_feed 15 = .ok (.invokevirtual 59, 3) := by decide +kernel
theorem dX7_feed_18 : decode cX7_feed 18 = .ok (.ireturn, 1) := by decide +kernel
theorem dX7_feed_19 : decode cX7_feed 19 = .ok (.aload_n 0, 1) := by decide +kernel
theorem dX7_feed_20 : decode cX7_feed 20 = .ok (.getfield 219, 3) := by decide +kernel
theorem dX7_feed_23 : decode cX7_feed 23 = .ok (.iload_n 2, 1) := by decide +kernel
theorem dX7_feed_24 : decode cX7_feed 24 = .ok (.iadd, 1) := by decide +kernel
theorem dX7_feed_25 : decode cX7_feed 25 = .ok (.bipush 120, 2) := by decide +kernel
theorem dX7_feed_27 : decode cX7_feed 27 = .ok (.if_icmp .le 10, 3) := by decide +kernel
theorem dX7_feed_30 : decode cX7_feed 30 = .ok (.aload_n 0, 1) := by decide +kernel
theorem dX7_feed_31 : decode cX7_feed 31 = .ok (.ldc 84, 2) := by decide +kernel
theorem dX7_feed_33 : decode cX7_feed 33 = .ok (.invokevirtual 59, 3) := by decide +kernel
theorem dX7_feed_36 : decode cX7_feed 36 = .ok (.ireturn, 1) := by decide +kernel
theorem dX7_feed_37 : decode cX7_feed 37 = .ok (.iload_n 2, 1) := by decide +kernel
theorem dX7_feed_38 : decode cX7_feed 38 = .ok (.iconst 1, 1) := by decide +kernel
theorem dX7_feed_39 : decode cX7_feed 39 = .ok (.isub, 1) := by decide +kernel
theorem dX7_feed_40 : decode cX7_feed 40 = .ok (.istore_n 3, 1) := by decide +kernel
theorem dX7_feed_41 : decode cX7_feed 41 = .ok (.iload_n 3, 1) := by decide +kernel
theorem dX7_feed_42 : decode cX7_feed 42 = .ok (.ifCond .lt 38, 3) := by decide +kernel
theorem dX7_feed_45 : decode cX7_feed 45 = .ok (.aload_n 0, 1) := by decide +kernel
theorem dX7_feed_46 : decode cX7_feed 46 = .ok (.getfield 28, 3) := by decide +kernel
theorem dX7_feed_49 : decode cX7_feed 49 = .ok (.aload_n 0, 1) := by decide +kernel
theorem dX7_feed_50 : decode cX7_feed 50 = .ok (.getfield 219, 3) := by decide +kernel
theorem dX7_feed_53 : decode cX7_feed 53 = .ok (.iload_n 1, 1) := by decide +kernel
theorem dX7_feed_54 : decode cX7_feed 54 = .ok (.bipush 8, 2) := by decide +kernel
theorem dX7_feed_56 : decode cX7_feed 56 = .ok (.iload_n 3, 1) := by decide +kernel
theorem dX7_feed_57 : decode cX7_feed 57 = .ok (.imul, 1) := by decide +kernel
theorem dX7_feed_58 : decode cX7_feed 58 = .ok (.ishr, 1) := by decide +kernel
theorem dX7_feed_59 : decode cX7_feed 59 = .ok (.sipush 255, 3) := by decide +kernel
theorem dX7_feed_62 : decode cX7_feed 62 = .ok (.iand, 1) := by decide +kernel
theorem dX7_feed_63 : decode cX7_feed 63 = .ok (.iastore, 1) := by decide +kernel
theorem dX7_feed_64 : decode cX7_feed 64 = .ok (.aload_n 0, 1) := by decide +kernel
theorem dX7_feed_65 : decode cX7_feed 65 = .ok (.dup, 1) := by decide +kernel
theorem dX7_feed_66 : decode cX7_feed 66 = .ok (.getfield 219, 3) := by decide +kernel
theorem dX7_feed_69 : decode cX7_feed 69 = .ok (.iconst 1, 1) := by decide +kernel
theorem dX7_feed_70 : decode cX7_feed 70 = .ok (.iadd, 1) := by decide +kernel
theorem dX7_feed_71 : decode cX7_feed 71 = .ok (.putfield 219, 3) := by decide +kernel
theorem dX7_feed_74 : decode cX7_feed 74 = .ok (.iinc 3 (-1), 3) := by decide +kernel
theorem dX7_feed_77 : decode cX7_feed 77 = .ok (.goto (-36), 3) := by decide +kernel
theorem dX7_feed_80 : decode cX7_feed 80 = .ok (.aload_n 0, 1) := by decide +kernel
theorem dX7_feed_81 : decode cX7_feed 81 = .ok (.getfield 219, 3) := by decide +kernel
theorem dX7_feed_84 : decode cX7_feed 84 = .ok (.ireturn, 1) := by decide +kernel
theorem dX7_wipe_0 : decode cX7_wipe 0 = .ok (.aload_n 0, 1) := by decide +kernel
theorem dX7_wipe_1 : decode cX7_wipe 1 = .ok (.getfield 219, 3) := by decide +kernel
theorem dX7_wipe_4 : decode cX7_wipe 4 = .ok (.istore_n 1, 1) := by decide +kernel
theorem dX7_wipe_5 : decode cX7_wipe 5 = .ok (.aload_n 0, 1) := by decide +kernel
theorem dX7_wipe_6 : decode cX7_wipe 6 = .ok (.iconst 0, 1) := by decide +kernel
theorem dX7_wipe_7 : decode cX7_wipe 7 = .ok (.putfield 219, 3) := by decide +kernel
theorem dX7_wipe_10 : decode cX7_wipe 10 = .ok (.iload_n 1, 1) := by decide +kernel
theorem dX7_wipe_11 : decode cX7_wipe 11 = .ok (.ireturn, 1) := by decide +kernel
theorem dX7_byteAt_0 : decode cX7_byteAt 0 = .ok (.iload_n 1, 1) := by decide +kernel
theorem dX7_byteAt_1 : decode cX7_byteAt 1 = .ok (.aload_n 0, 1) := by decide +kernel
theorem dX7_byteAt_2 : decode cX7_byteAt 2 = .ok (.getfield 219, 3) := by decide +kernel
theorem dX7_byteAt_5 : decode cX7_byteAt 5 = .ok (.if_icmp .ge 12, 3) := by decide +kernel
theorem dX7_byteAt_8 : decode cX7_byteAt 8 = .ok (.aload_n 0, 1) := by decide +kernel
theorem dX7_byteAt_9 : decode cX7_byteAt 9 = .ok (.getfield 28, 3) := by decide +kernel
theorem dX7_byteAt_12 : decode cX7_byteAt 12 = .ok (.iload_n 1, 1) := by decide +kernel
theorem dX7_byteAt_13 : decode cX7_byteAt 13 = .ok (.iaload, 1) := by decide +kernel
theorem dX7_byteAt_14 : decode cX7_byteAt 14 = .ok (.goto 4, 3) := by decide +kernel
theorem dX7_byteAt_17 : decode cX7_byteAt 17 = .ok (.iconst (-1), 1) := by decide +kernel
theorem dX7_byteAt_18 : decode cX7_byteAt 18 = .ok (.ireturn, 1) := by decide +kernel
theorem dX7_isLetter_0 : decode cX7_isLetter 0 = .ok (.iload_n 0, 1) := by decide +kernel
theorem dX7_isLetter_1 : decode cX7_isLetter 1 = .ok (.i2l, 1) := by decide +kernel
theorem dX7_isLetter_2 : decode cX7_isLetter 2 = .ok (.ldc2_w 222, 3) := by decide +kernel
theorem dX7_isLetter_5 : decode cX7_isLetter 5 = .ok (.ldc2_w 224, 3) := by decide +kernel
theorem dX7_isLetter_8 : decode cX7_isLetter 8 = .ok (.invokestatic 46, 3) := by decide +kernel
theorem dX7_isLetter_11 : decode cX7_isLetter 11 = .ok (.ireturn, 1) := by decide +kernel
theorem dX7_isDigit_0 : decode cX7_isDigit 0 = .ok (.iload_n 0, 1) := by decide +kernel
theorem dX7_isDigit_1 : decode cX7_isDigit 1 = .ok (.i2l, 1) := by decide +kernel
theorem dX7_isDigit_2 : decode cX7_isDigit 2 = .ok (.ldc2_w 226, 3) := by decide +kernel
theorem dX7_isDigit_5 : decode cX7_isDigit 5 = .ok (.ldc2_w 228, 3) := by decide +kernel
theorem dX7_isDigit_8 : decode cX7_isDigit 8 = .ok (.invokestatic 46, 3) := by decide +kernel
theorem dX7_isDigit_11 : decode cX7_isDigit 11 = .ok (.ireturn, 1) := by decide +kernel
theorem dX7_token_0 : decode cX7_token 0 = .ok (.aload_n 0, 1) := by decide +kernel
theorem dX7_token_1 : decode cX7_token 1 = .ok (.aload_n 0, 1) := by decide +kernel
theorem dX7_token_2 : decode cX7_token 2 = .ok (.getfield 230, 3) := by decide +kernel
theorem dX7_token_5 : decode cX7_token 5 = .ok (.putfield 233, 3) := by decide +kernel
theorem dX7_token_8 : decode cX7_token 8 = .ok (.aload_n 0, 1) := by decide +kernel
theorem dX7_token_9 : decode cX7_token 9 = .ok (.aload_n 0, 1) := by decide +kernel
theorem dX7_token_10 : decode cX7_token 10 = .ok (.getfield 233, 3) := by decide +kernel
theorem dX7_token_13 : decode cX7_token 13 = .ok (.invokevirtual 236, 3) := by decide +kernel
theorem dX7_token_16 : decode cX7_token 16 = .ok (.bipush 32, 2) := by decide +kernel
theorem dX7_token_18 : decode cX7_token 18 = .ok (.if_icmp .ne 16, 3) := by decide +kernel
theorem dX7_token_21 : decode cX7_token 21 = .ok (.aload_n 0, 1) := by decide +kernel
theorem dX7_token_22 : decode cX7_token 22 = .ok (.dup, 1) := by decide +kernel
theorem dX7_token_23 : decode cX7_token 23 = .ok (.getfield 233, 3) := by decide +kernel
theorem dX7_token_26 : decode cX7_token 26 = .ok (.iconst 1, 1) := by decide +kernel
theorem dX7_token_27 : decode cX7_token 27 = .ok (.iadd, 1) := by decide +kernel
theorem dX7_token_28 : decode cX7_token 28 = .ok (.putfield 233, 3) := by decide +kernel
theorem dX7_token_31 : decode cX7_token 31 = .ok (.goto (-23), 3) := by decide +kernel
theorem dX7_token_34 : decode cX7_token 34 = .ok (.aload_n 0, 1) := by decide +kernel
theorem dX7_token_35 : decode cX7_token 35 = .ok (.aload_n 0, 1) := by decide +kernel
theorem dX7_token_36 : decode cX7_token 36 = .ok (.getfield 233, 3) := by decide +kernel
theorem dX7_token_39 : decode cX7_token 39 = .ok (.invokevirtual 236, 3) := by decide +kernel
theorem dX7_token_42 : decode cX7_token 42 = .ok (.invokestatic 239, 3) := by decide +kernel
theorem dX7_token_45 : decode cX7_token 45 = .ok (.istore_n 1, 1) := by decide +kernel
theorem dX7_token_46 : decode cX7_token 46 = .ok (.aload_n 0, 1) := by decide +kernel
theorem dX7_token_47 : decode cX7_token 47 = .ok (.aload_n 0, 1) := by decide +kernel
theorem dX7_token_48 : decode cX7_token 48 = .ok (.getfield 233, 3) := by decide +kernel
theorem dX7_token_51 : decode cX7_token 51 = .ok (.invokevirtual 236, 3) := by decide +kernel
theorem dX7_token_54 : decode cX7_token 54 = .ok (.invokestatic 242, 3) := by decide +kernel
theorem dX7_token_57 : decode cX7_token 57 = .ok (.istore_n 2, 1) := by decide +kernel
theorem dX7_token_58 : decode cX7_token 58 = .ok (.aload_n 0, 1) := by decide +kernel
theorem dX7_token_59 : decode cX7_token 59 = .ok (.aload_n 0, 1) := by decide +kernel
theorem dX7_token_60 : decode cX7_token 60 = .ok (.getfield 233, 3) := by decide +kernel
theorem dX7_token_63 : decode cX7_token 63 = .ok (.aload_n 0, 1) := by decide +kernel
theorem dX7_token_64 : decode cX7_token 64 = .ok (.getfield 219, 3) := by decide +kernel
theorem dX7_token_67 : decode cX7_token 67 = .ok (.if_icmp .ge 12, 3) := by decide +kernel
theorem dX7_token_70 : decode cX7_token 70 = .ok (.aload_n 0, 1) := by decide +kernel
theorem dX7_token_71 : decode cX7_token 71 = .ok (.getfield 233, 3) := by decide +kernel
theorem dX7_token_74 : decode cX7_token 74 = .ok (.iconst 1, 1) := by decide +kernel
theorem dX7_token_75 : decode cX7_token 75 = .ok (.iadd, 1) := by decide +kernel
theorem dX7_token_76 : decode cX7_token 76 = .ok (.goto 7, 3) := by decide +kernel
theorem dX7_token_79 : decode cX7_token 79 = .ok (.aload_n 0, 1) := by decide +kernel
theorem dX7_token_80 : decode cX7_token 80 = .ok (.getfield 233, 3) := by decide +kernel
theorem dX7_token_83 : decode cX7_token 83 = .ok (.putfield 230, 3) := by decide +kernel
theorem dX7_token_86 : decode cX7_token 86 = .ok (.iload_n 1, 1) := by decide +kernel
theorem dX7_token_87 : decode cX7_token 87 = .ok (.ifCond .eq 17, 3) := by decide +kernel
theorem dX7_token_90 : decode cX7_token 90 = .ok (.aload_n 0, 1) := by decide +kernel
theorem dX7_token_91 : decode cX7_token 91 = .ok (.aload_n 0, 1) := by decide +kernel
theorem dX7_token_92 : decode cX7_token 92 = .ok (.getfield 230, 3) := by decide +kernel
theorem dX7_token_95 : decode cX7_token 95 = .ok (.invokevirtual 236, 3) := by decide +kernel
theorem dX7_token_98 : decode cX7_token 98 = .ok (.invokestatic 239, 3) := by decide +kernel
theorem dX7_token_101 : decode cX7_token 101 = .ok (.ifCond .ne 21, 3) := by decide +kernel
theorem dX7_token_104 : decode cX7_token 104 = .ok (.iload_n 2, 1) := by decide +kernel
theorem dX7_token_105 : decode cX7_token 105 = .ok (.ifCond .eq 30, 3) := by decide +kernel
theorem dX7_token_108 : decode cX7_token 108 = .ok (.aload_n 0, 1) := by decide +kernel
theorem dX7_token_109 : decode cX7_token 109 = .ok (.aload_n 0, 1) := by decide +kernel
theorem dX7_token_110 : decode cX7_token 110 = .ok (.getfield 230, 3) := by decide +kernel
theorem dX7_token_113 : decode cX7_token 113 = .ok (.invokevirtual 236, 3) := by decide +kernel
theorem dX7_token_116 : decode cX7_token 116 = .ok (.invokestatic 242, 3) := by decide +kernel
theorem dX7_token_119 : decode cX7_token 119 = .ok (.ifCond .eq 16, 3) := by decide +kernel
theorem dX7_token_122 : decode cX7_token 122 = .ok (.aload_n 0, 1) := by decide +kernel
theorem dX7_token_123 : decode cX7_token 123 = .ok (.dup, 1) := by decide +kernel
theorem dX7_token_124 : decode cX7_token 124 = .ok (.getfield 230, 3) := by decide +kernel
theorem dX7_token_127 : decode cX7_token 127 = .ok (.iconst 1, 1) := by decide +kernel
theorem dX7_token_128 : decode cX7_token 128 = .ok (.iadd, 1) := by decide +kernel
theorem dX7_token_129 : decode cX7_token 129 = .ok (.putfield 230, 3) := by decide +kernel
theorem dX7_token_132 : decode cX7_token 132 = .ok (.goto (-46), 3) := by decide +kernel
theorem dX7_token_135 : decode cX7_token 135 = .ok (.return_, 1) := by decide +kernel
theorem dX7_needs_0 : decode cX7_needs 0 = .ok (.aload_n 0, 1) := by decide +kernel
theorem dX7_needs_1 : decode cX7_needs 1 = .ok (.aload_n 0, 1) := by decide +kernel
theorem dX7_needs_2 : decode cX7_needs 2 = .ok (.getfield 245, 3) := by decide +kernel
theorem dX7_needs_5 : decode cX7_needs 5 = .ok (.ifCond .ne 7, 3) := by decide +kernel
theorem dX7_needs_8 : decode cX7_needs 8 = .ok (.iload_n 1, 1) := by decide +kernel
theorem dX7_needs_9 : decode cX7_needs 9 = .ok (.ifCond .ne 7, 3) := by decide +kernel
theorem dX7_needs_12 : decode cX7_needs 12 = .ok (.iconst 1, 1) := by decide +kernel
theorem dX7_needs_13 : decode cX7_needs 13 = .ok (.goto 4, 3) := by decide +kernel
theorem dX7_needs_16 : decode cX7_needs 16 = .ok (.iconst 0, 1) := by decide +kernel
theorem dX7_needs_17 : decode cX7_needs 17 = .ok (.putfield 245, 3) := by decide +kernel
theorem dX7_needs_20 : decode cX7_needs 20 = .ok (.aload_n 0, 1) := by decide +kernel
theorem dX7_needs_21 : decode cX7_needs 21 = .ok (.getfield 245, 3) := by decide +kernel
theorem dX7_needs_24 : decode cX7_needs 24 = .ok (.ifCond .ne 7, 3) := by decide +kernel
theorem dX7_needs_27 : decode cX7_needs 27 = .ok (.aload_n 0, 1) := by decide +kernel
theorem dX7_needs_28 : decode cX7_needs 28 = .ok (.invokevirtual 249, 3) := by decide +kernel
theorem dX7_needs_31 : decode cX7_needs 31 = .ok (.return_, 1) := by decide +kernel
theorem dX7_word_0 : decode cX7_word 0 = .ok (.lconst 0, 1) := by decide +kernel
theorem dX7_word_1 : decode cX7_word 1 = .ok (.lstore_n 1, 1) := by decide +kernel
theorem dX7_word_2 : decode cX7_word 2 = .ok (.aload_n 0, 1) := by decide +kernel
theorem dX7_word_3 : decode cX7_word 3 = .ok (.getfield 233, 3) := by decide +kernel
theorem dX7_word_6 : decode cX7_word 6 = .ok (.istore_n 3, 1) := by decide +kernel
theorem dX7_word_7 : decode cX7_word 7 = .ok (.iload_n 3, 1) := by decide +kernel
theorem dX7_word_8 : decode cX7_word 8 = .ok (.aload_n 0, 1) := by decide +kernel
theorem dX7_word_9 : decode cX7_word 9 = .ok (.getfield 230, 3) := by decide +kernel
theorem dX7_word_12 : decode cX7_word 12 = .ok (.if_icmp .ge 38, 3) := by decide +kernel
theorem dX7_word_15 : decode cX7_word 15 = .ok (.lload_n 1, 1) := by decide +kernel
theorem dX7_word_16 : decode cX7_word 16 = .ok (.ldc2_w 252, 3) := by decide +kernel
theorem dX7_word_19 : decode cX7_word 19 = .ok (.lcmp, 1) := by decide +kernel
theorem dX7_word_20 : decode cX7_word 20 = .ok (.ifCond .le 7, 3) := by decide +kernel
theorem dX7_word_23 : decode cX7_word 23 = .ok (.lload_n 1, 1) := by decide +kernel
theorem dX7_word_24 : decode cX7_word 24 = .ok (.goto 19, 3) := by decide +kernel
theorem dX7_word_27 : decode cX7_word 27 = .ok (.ldc2_w 254, 3) := by decide +kernel
theorem dX7_word_30 : decode cX7_word 30 = .ok (.lload_n 1, 1) := by decide +kernel
theorem dX7_word_31 : decode cX7_word 31 = .ok (.lmul, 1) := by decide +kernel
theorem dX7_word_32 : decode cX7_word 32 = .ok (.aload_n 0, 1) := by decide +kernel
theorem dX7_word_33 : decode cX7_word 33 = .ok (.getfield 28, 3) := by decide +kernel
theorem dX7_word_36 : decode cX7_word 36 = .ok (.iload_n 3, 1) := by decide +kernel
theorem dX7_word_37 : decode cX7_word 37 = .ok (.iaload, 1) := by decide +kernel
theorem dX7_word_38 : decode cX7_word 38 = .ok (.bipush 96, 2) := by decide +kernel
theorem dX7_word_40 : decode cX7_word 40 = .ok (.isub, 1) := by decide +kernel
theorem dX7_word_41 : decode cX7_word 41 = .ok (.i2l, 1) := by decide +kernel
theorem dX7_word_42 : decode cX7_word 42 = .ok (.ladd, 1) := by decide +kernel
theorem dX7_word_43 : decode cX7_word 43 = .ok (.lstore_n 1, 1) := by decide +kernel
theorem dX7_word_44 : decode cX7_word 44 = .ok (.iinc 3 1, 3) := by decide +kernel
theorem dX7_word_47 : decode cX7_word 47 = .ok (.goto (-40), 3) := by decide +kernel
theorem dX7_word_50 : decode cX7_word 50 = .ok (.aload_n 0, 1) := by decide +kernel
theorem dX7_word_51 : decode cX7_word 51 = .ok (.getfield 245, 3) := by decide +kernel
theorem dX7_word_54 : decode cX7_word 54 = .ok (.ifCond .ne 17, 3) := by decide +kernel
theorem dX7_word_57 : decode cX7_word 57 = .ok (.aload_n 0, 1) := by decide +kernel
theorem dX7_word_58 : decode cX7_word 58 = .ok (.aload_n 0, 1) := by decide +kernel
theorem dX7_word_59 : decode cX7_word 59 = .ok (.getfield 233, 3) := by decide +kernel
theorem dX7_word_62 : decode cX7_word 62 = .ok (.invokevirtual 236, 3) := by decide +kernel
theorem dX7_word_65 : decode cX7_word 65 = .ok (.invokestatic 239, 3) := by decide +kernel
theorem dX7_word_68 : decode cX7_word 68 = .ok (.ifCond .ne 7, 3) := by decide +kernel
theorem dX7_word_71 : decode cX7_word 71 = .ok (.lconst 0, 1) := by decide +kernel
theorem dX7_word_72 : decode cX7_word 72 = .ok (.goto 4, 3) := by decide +kernel
theorem dX7_word_75 : decode cX7_word 75 = .ok (.lload_n 1, 1) := by decide +kernel
theorem dX7_word_76 : decode cX7_word 76 = .ok (.lreturn, 1) := by decide +kernel
theorem dX7_number_0 : decode cX7_number 0 = .ok (.aload_n 0, 1) := by decide +kernel
theorem dX7_number_1 : decode cX7_number 1 = .ok (.getfield 245, 3) := by decide +kernel
theorem dX7_number_4 : decode cX7_number 4 = .ok (.ifCond .eq 4, 3) := by decide +kernel
theorem dX7_number_7 : decode cX7_number 7 = .ok (.return_, 1) := by decide +kernel
theorem dX7_number_8 : decode cX7_number 8 = .ok (.aload_n 0, 1) := by decide +kernel
theorem dX7_number_9 : decode cX7_number 9 = .ok (.aload_n 0, 1) := by decide +kernel
theorem dX7_number_10 : decode cX7_number 10 = .ok (.getfield 233, 3) := by decide +kernel
theorem dX7_number_13 : decode cX7_number 13 = .ok (.invokevirtual 236, 3) := by decide +kernel
theorem dX7_number_16 : decode cX7_number 16 = .ok (.invokestatic 242, 3) := by decide +kernel
theorem dX7_number_19 : decode cX7_number 19 = .ok (.istore_n 3, 1) := by decide +kernel
theorem dX7_number_20 : decode cX7_number 20 = .ok (.iconst 0, 1) := by decide +kernel
theorem dX7_number_21 : decode cX7_number 21 = .ok (.istore 4, 2) := by decide +kernel
theorem dX7_number_23 : decode cX7_number 23 = .ok (.aload_n 0, 1) := by decide +kernel
theorem dX7_number_24 : decode cX7_number 24 = .ok (.getfield 233, 3) := by decide +kernel
theorem dX7_number_27 : decode cX7_number 27 = .ok (.istore 5, 2) := by decide +kernel
theorem dX7_number_29 : decode cX7_number 29 = .ok (.iload 5, 2) := by decide +kernel
theorem dX7_number_31 : decode cX7_number 31 = .ok (.aload_n 0, 1) := by decide +kernel
