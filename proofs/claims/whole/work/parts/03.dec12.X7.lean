theorem dX7_number_32 : decode cX7_number 32 = .ok (.getfield 230, 3) := by decide +kernel
theorem dX7_number_35 : decode cX7_number 35 = .ok (.if_icmp .ge 44, 3) := by decide +kernel
theorem dX7_number_38 : decode cX7_number 38 = .ok (.iload_n 3, 1) := by decide +kernel
theorem dX7_number_39 : decode cX7_number 39 = .ok (.ifCond .eq 40, 3) := by decide +kernel
theorem dX7_number_42 : decode cX7_number 42 = .ok (.iload 4, 2) := by decide +kernel
theorem dX7_number_44 : decode cX7_number 44 = .ok (.sipush 999, 3) := by decide +kernel
theorem dX7_number_47 : decode cX7_number 47 = .ok (.if_icmp .le 8, 3) := by decide +kernel
theorem dX7_number_50 : decode cX7_number 50 = .ok (.iload 4, 2) := by decide +kernel
theorem dX7_number_52 : decode cX7_number 52 = .ok (.goto 19, 3) := by decide +kernel
theorem dX7_number_55 : decode cX7_number 55 = .ok (.bipush 10, 2) := by decide +kernel
theorem dX7_number_57 : decode cX7_number 57 = .ok (.iload 4, 2) := by decide +kernel
theorem dX7_number_59 : decode cX7_number 59 = .ok (.imul, 1) := by decide +kernel
theorem dX7_number_60 : decode cX7_number 60 = .ok (.aload_n 0, 1) := by decide +kernel
theorem dX7_number_61 : decode cX7_number 61 = .ok (.getfield 28, 3) := by decide +kernel
theorem dX7_number_64 : decode cX7_number 64 = .ok (.iload 5, 2) := by decide +kernel
theorem dX7_number_66 : decode cX7_number 66 = .ok (.iaload, 1) := by decide +kernel
theorem dX7_number_67 : decode cX7_number 67 = .ok (.iadd, 1) := by decide +kernel
theorem dX7_number_68 : decode cX7_number 68 = .ok (.bipush 48, 2) := by decide +kernel
theorem dX7_number_70 : decode cX7_number 70 = .ok (.isub, 1) := by decide +kernel
theorem dX7_number_71 : decode cX7_number 71 = .ok (.istore 4, 2) := by decide +kernel
theorem dX7_number_73 : decode cX7_number 73 = .ok (.iinc 5 1, 3) := by decide +kernel
theorem dX7_number_76 : decode cX7_number 76 = .ok (.goto (-47), 3) := by decide +kernel
theorem dX7_number_79 : decode cX7_number 79 = .ok (.aload_n 0, 1) := by decide +kernel
theorem dX7_number_80 : decode cX7_number 80 = .ok (.iload 4, 2) := by decide +kernel
theorem dX7_number_82 : decode cX7_number 82 = .ok (.putfield 256, 3) := by decide +kernel
theorem dX7_number_85 : decode cX7_number 85 = .ok (.aload_n 0, 1) := by decide +kernel
theorem dX7_number_86 : decode cX7_number 86 = .ok (.iload_n 3, 1) := by decide +kernel
theorem dX7_number_87 : decode cX7_number 87 = .ok (.ifCond .eq 20, 3) := by decide +kernel
theorem dX7_number_90 : decode cX7_number 90 = .ok (.iload 4, 2) := by decide +kernel
theorem dX7_number_92 : decode cX7_number 92 = .ok (.i2l, 1) := by decide +kernel
theorem dX7_number_93 : decode cX7_number 93 = .ok (.iload_n 1, 1) := by decide +kernel
theorem dX7_number_94 : decode cX7_number 94 = .ok (.i2l, 1) := by decide +kernel
theorem dX7_number_95 : decode cX7_number 95 = .ok (.iload_n 2, 1) := by decide +kernel
theorem dX7_number_96 : decode cX7_number 96 = .ok (.i2l, 1) := by decide +kernel
theorem dX7_number_97 : decode cX7_number 97 = .ok (.invokestatic 46, 3) := by decide +kernel
theorem dX7_number_100 : decode cX7_number 100 = .ok (.ifCond .eq 7, 3) := by decide +kernel
theorem dX7_number_103 : decode cX7_number 103 = .ok (.iconst 1, 1) := by decide +kernel
theorem dX7_number_104 : decode cX7_number 104 = .ok (.goto 4, 3) := by decide +kernel
theorem dX7_number_107 : decode cX7_number 107 = .ok (.iconst 0, 1) := by decide +kernel
theorem dX7_number_108 : decode cX7_number 108 = .ok (.invokevirtual 259, 3) := by decide +kernel
theorem dX7_number_111 : decode cX7_number 111 = .ok (.return_, 1) := by decide +kernel
theorem dX7_groundHere_0 : decode cX7_groundHere 0 = .ok (.aload_n 0, 1) := by decide +kernel
theorem dX7_groundHere_1 : decode cX7_groundHere 1 = .ok (.invokevirtual 263, 3) := by decide +kernel
theorem dX7_groundHere_4 : decode cX7_groundHere 4 = .ok (.lstore_n 1, 1) := by decide +kernel
theorem dX7_groundHere_5 : decode cX7_groundHere 5 = .ok (.lload_n 1, 1) := by decide +kernel
theorem dX7_groundHere_6 : decode cX7_groundHere 6 = .ok (.ldc2_w 267, 3) := by decide +kernel
theorem dX7_groundHere_9 : decode cX7_groundHere 9 = .ok (.lcmp, 1) := by decide +kernel
theorem dX7_groundHere_10 : decode cX7_groundHere 10 = .ok (.ifCond .ne 7, 3) := by decide +kernel
theorem dX7_groundHere_13 : decode cX7_groundHere 13 = .ok (.iconst 0, 1) := by decide +kernel
theorem dX7_groundHere_14 : decode cX7_groundHere 14 = .ok (.goto 52, 3) := by decide +kernel
theorem dX7_groundHere_17 : decode cX7_groundHere 17 = .ok (.lload_n 1, 1) := by decide +kernel
theorem dX7_groundHere_18 : decode cX7_groundHere 18 = .ok (.ldc2_w 269, 3) := by decide +kernel
theorem dX7_groundHere_21 : decode cX7_groundHere 21 = .ok (.lcmp, 1) := by decide +kernel
theorem dX7_groundHere_22 : decode cX7_groundHere 22 = .ok (.ifCond .ne 7, 3) := by decide +kernel
theorem dX7_groundHere_25 : decode cX7_groundHere 25 = .ok (.iconst 1, 1) := by decide +kernel
theorem dX7_groundHere_26 : decode cX7_groundHere 26 = .ok (.goto 40, 3) := by decide +kernel
theorem dX7_groundHere_29 : decode cX7_groundHere 29 = .ok (.lload_n 1, 1) := by decide +kernel
theorem dX7_groundHere_30 : decode cX7_groundHere 30 = .ok (.ldc2_w 271, 3) := by decide +kernel
theorem dX7_groundHere_33 : decode cX7_groundHere 33 = .ok (.lcmp, 1) := by decide +kernel
theorem dX7_groundHere_34 : decode cX7_groundHere 34 = .ok (.ifCond .ne 7, 3) := by decide +kernel
theorem dX7_groundHere_37 : decode cX7_groundHere 37 = .ok (.iconst 2, 1) := by decide +kernel
theorem dX7_groundHere_38 : decode cX7_groundHere 38 = .ok (.goto 28, 3) := by decide +kernel
theorem dX7_groundHere_41 : decode cX7_groundHere 41 = .ok (.lload_n 1, 1) := by decide +kernel
theorem dX7_groundHere_42 : decode cX7_groundHere 42 = .ok (.ldc2_w 273, 3) := by decide +kernel
theorem dX7_groundHere_45 : decode cX7_groundHere 45 = .ok (.lcmp, 1) := by decide +kernel
theorem dX7_groundHere_46 : decode cX7_groundHere 46 = .ok (.ifCond .ne 7, 3) := by decide +kernel
theorem dX7_groundHere_49 : decode cX7_groundHere 49 = .ok (.iconst 3, 1) := by decide +kernel
theorem dX7_groundHere_50 : decode cX7_groundHere 50 = .ok (.goto 16, 3) := by decide +kernel
theorem dX7_groundHere_53 : decode cX7_groundHere 53 = .ok (.lload_n 1, 1) := by decide +kernel
theorem dX7_groundHere_54 : decode cX7_groundHere 54 = .ok (.ldc2_w 275, 3) := by decide +kernel
theorem dX7_groundHere_57 : decode cX7_groundHere 57 = .ok (.lcmp, 1) := by decide +kernel
theorem dX7_groundHere_58 : decode cX7_groundHere 58 = .ok (.ifCond .ne 7, 3) := by decide +kernel
theorem dX7_groundHere_61 : decode cX7_groundHere 61 = .ok (.iconst 4, 1) := by decide +kernel
theorem dX7_groundHere_62 : decode cX7_groundHere 62 = .ok (.goto 4, 3) := by decide +kernel
theorem dX7_groundHere_65 : decode cX7_groundHere 65 = .ok (.iconst (-1), 1) := by decide +kernel
theorem dX7_groundHere_66 : decode cX7_groundHere 66 = .ok (.ireturn, 1) := by decide +kernel
theorem dX7_kindHere_0 : decode cX7_kindHere 0 = .ok (.aload_n 0, 1) := by decide +kernel
theorem dX7_kindHere_1 : decode cX7_kindHere 1 = .ok (.invokevirtual 263, 3) := by decide +kernel
theorem dX7_kindHere_4 : decode cX7_kindHere 4 = .ok (.lstore_n 1, 1) := by decide +kernel
theorem dX7_kindHere_5 : decode cX7_kindHere 5 = .ok (.lload_n 1, 1) := by decide +kernel
theorem dX7_kindHere_6 : decode cX7_kindHere 6 = .ok (.ldc2_w 277, 3) := by decide +kernel
theorem dX7_kindHere_9 : decode cX7_kindHere 9 = .ok (.lcmp, 1) := by decide +kernel
theorem dX7_kindHere_10 : decode cX7_kindHere 10 = .ok (.ifCond .ne 7, 3) := by decide +kernel
theorem dX7_kindHere_13 : decode cX7_kindHere 13 = .ok (.iconst 0, 1) := by decide +kernel
theorem dX7_kindHere_14 : decode cX7_kindHere 14 = .ok (.goto 77, 3) := by decide +kernel
theorem dX7_kindHere_17 : decode cX7_kindHere 17 = .ok (.lload_n 1, 1) := by decide +kernel
theorem dX7_kindHere_18 : decode cX7_kindHere 18 = .ok (.ldc2_w 279, 3) := by decide +kernel
theorem dX7_kindHere_21 : decode cX7_kindHere 21 = .ok (.lcmp, 1) := by decide +kernel
theorem dX7_kindHere_22 : decode cX7_kindHere 22 = .ok (.ifCond .ne 7, 3) := by decide +kernel
theorem dX7_kindHere_25 : decode cX7_kindHere 25 = .ok (.iconst 1, 1) := by decide +kernel
theorem dX7_kindHere_26 : decode cX7_kindHere 26 = .ok (.goto 65, 3) := by decide +kernel
theorem dX7_kindHere_29 : decode cX7_kindHere 29 = .ok (.lload_n 1, 1) := by decide +kernel
theorem dX7_kindHere_30 : decode cX7_kindHere 30 = .ok (.ldc2_w 281, 3) := by decide +kernel
theorem dX7_kindHere_33 : decode cX7_kindHere 33 = .ok (.lcmp, 1) := by decide +kernel
theorem dX7_kindHere_34 : decode cX7_kindHere 34 = .ok (.ifCond .ne 7, 3) := by decide +kernel
theorem dX7_kindHere_37 : decode cX7_kindHere 37 = .ok (.iconst 2, 1) := by decide +kernel
theorem dX7_kindHere_38 : decode cX7_kindHere 38 = .ok (.goto 53, 3) := by decide +kernel
theorem dX7_kindHere_41 : decode cX7_kindHere 41 = .ok (.lload_n 1, 1) := by decide +kernel
theorem dX7_kindHere_42 : decode cX7_kindHere 42 = .ok (.ldc2_w 283, 3) := by decide +kernel
theorem dX7_kindHere_45 : decode cX7_kindHere 45 = .ok (.lcmp, 1) := by decide +kernel
theorem dX7_kindHere_46 : decode cX7_kindHere 46 = .ok (.ifCond .ne 7, 3) := by decide +kernel
theorem dX7_kindHere_49 : decode cX7_kindHere 49 = .ok (.iconst 3, 1) := by decide +kernel
theorem dX7_kindHere_50 : decode cX7_kindHere 50 = .ok (.goto 41, 3) := by decide +kernel
theorem dX7_kindHere_53 : decode cX7_kindHere 53 = .ok (.lload_n 1, 1) := by decide +kernel
theorem dX7_kindHere_54 : decode cX7_kindHere 54 = .ok (.ldc2_w 285, 3) := by decide +kernel
theorem dX7_kindHere_57 : decode cX7_kindHere 57 = .ok (.lcmp, 1) := by decide +kernel
theorem dX7_kindHere_58 : decode cX7_kindHere 58 = .ok (.ifCond .ne 7, 3) := by decide +kernel
theorem dX7_kindHere_61 : decode cX7_kindHere 61 = .ok (.iconst 4, 1) := by decide +kernel
theorem dX7_kindHere_62 : decode cX7_kindHere 62 = .ok (.goto 29, 3) := by decide +kernel
theorem dX7_kindHere_65 : decode cX7_kindHere 65 = .ok (.lload_n 1, 1) := by decide +kernel
theorem dX7_kindHere_66 : decode cX7_kindHere 66 = .ok (.ldc2_w 287, 3) := by decide +kernel
theorem dX7_kindHere_69 : decode cX7_kindHere 69 = .ok (.lcmp, 1) := by decide +kernel
theorem dX7_kindHere_70 : decode cX7_kindHere 70 = .ok (.ifCond .ne 7, 3) := by decide +kernel
theorem dX7_kindHere_73 : decode cX7_kindHere 73 = .ok (.iconst 5, 1) := by decide +kernel
theorem dX7_kindHere_74 : decode cX7_kindHere 74 = .ok (.goto 17, 3) := by decide +kernel
theorem dX7_kindHere_77 : decode cX7_kindHere 77 = .ok (.lload_n 1, 1) := by decide +kernel
theorem dX7_kindHere_78 : decode cX7_kindHere 78 = .ok (.ldc2_w 289, 3) := by decide +kernel
theorem dX7_kindHere_81 : decode cX7_kindHere 81 = .ok (.lcmp, 1) := by decide +kernel
theorem dX7_kindHere_82 : decode cX7_kindHere 82 = .ok (.ifCond .ne 8, 3) := by decide +kernel
theorem dX7_kindHere_85 : decode cX7_kindHere 85 = .ok (.bipush 6, 2) := by decide +kernel
theorem dX7_kindHere_87 : decode cX7_kindHere 87 = .ok (.goto 4, 3) := by decide +kernel
theorem dX7_kindHere_90 : decode cX7_kindHere 90 = .ok (.iconst (-1), 1) := by decide +kernel
theorem dX7_kindHere_91 : decode cX7_kindHere 91 = .ok (.ireturn, 1) := by decide +kernel
theorem dX7_perhaps_0 : decode cX7_perhaps 0 = .ok (.iload_n 1, 1) := by decide +kernel
theorem dX7_perhaps_1 : decode cX7_perhaps 1 = .ok (.ifCond .ne 6, 3) := by decide +kernel
theorem dX7_perhaps_4 : decode cX7_perhaps 4 = .ok (.iload 4, 2) := by decide +kernel
theorem dX7_perhaps_6 : decode cX7_perhaps 6 = .ok (.ireturn, 1) := by decide +kernel
theorem dX7_perhaps_7 : decode cX7_perhaps 7 = .ok (.aload_n 0, 1) := by decide +kernel
theorem dX7_perhaps_8 : decode cX7_perhaps 8 = .ok (.iconst 1, 1) := by decide +kernel
theorem dX7_perhaps_9 : decode cX7_perhaps 9 = .ok (.invokevirtual 259, 3) := by decide +kernel
theorem dX7_perhaps_12 : decode cX7_perhaps 12 = .ok (.aload_n 0, 1) := by decide +kernel
theorem dX7_perhaps_13 : decode cX7_perhaps 13 = .ok (.iload_n 2, 1) := by decide +kernel
theorem dX7_perhaps_14 : decode cX7_perhaps 14 = .ok (.iload_n 3, 1) := by decide +kernel
theorem dX7_perhaps_15 : decode cX7_perhaps 15 = .ok (.invokevirtual 291, 3) := by decide +kernel
theorem dX7_perhaps_18 : decode cX7_perhaps 18 = .ok (.aload_n 0, 1) := by decide +kernel
theorem dX7_perhaps_19 : decode cX7_perhaps 19 = .ok (.getfield 256, 3) := by decide +kernel
theorem dX7_perhaps_22 : decode cX7_perhaps 22 = .ok (.ireturn, 1) := by decide +kernel
theorem dX7_cells_0 : decode cX7_cells 0 = .ok (.aload_n 0, 1) := by decide +kernel
theorem dX7_cells_1 : decode cX7_cells 1 = .ok (.iconst 1, 1) := by decide +kernel
theorem dX7_cells_2 : decode cX7_cells 2 = .ok (.invokevirtual 259, 3) := by decide +kernel
theorem dX7_cells_5 : decode cX7_cells 5 = .ok (.aload_n 0, 1) := by decide +kernel
theorem dX7_cells_6 : decode cX7_cells 6 = .ok (.iconst 0, 1) := by decide +kernel
theorem dX7_cells_7 : decode cX7_cells 7 = .ok (.bipush 30, 2) := by decide +kernel
theorem dX7_cells_9 : decode cX7_cells 9 = .ok (.invokevirtual 291, 3) := by decide +kernel
theorem dX7_cells_12 : decode cX7_cells 12 = .ok (.aload_n 0, 1) := by decide +kernel
theorem dX7_cells_13 : decode cX7_cells 13 = .ok (.aload_n 0, 1) := by decide +kernel
theorem dX7_cells_14 : decode cX7_cells 14 = .ok (.getfield 256, 3) := by decide +kernel
theorem dX7_cells_17 : decode cX7_cells 17 = .ok (.putfield 293, 3) := by decide +kernel
theorem dX7_cells_20 : decode cX7_cells 20 = .ok (.aload_n 0, 1) := by decide +kernel
theorem dX7_cells_21 : decode cX7_cells 21 = .ok (.aload_n 0, 1) := by decide +kernel
theorem dX7_cells_22 : decode cX7_cells 22 = .ok (.aload_n 0, 1) := by decide +kernel
theorem dX7_cells_23 : decode cX7_cells 23 = .ok (.invokevirtual 263, 3) := by decide +kernel
theorem dX7_cells_26 : decode cX7_cells 26 = .ok (.ldc2_w 296, 3) := by decide +kernel
theorem dX7_cells_29 : decode cX7_cells 29 = .ok (.lcmp, 1) := by decide +kernel
theorem dX7_cells_30 : decode cX7_cells 30 = .ok (.ifCond .ne 7, 3) := by decide +kernel
theorem dX7_cells_33 : decode cX7_cells 33 = .ok (.iconst 1, 1) := by decide +kernel
theorem dX7_cells_34 : decode cX7_cells 34 = .ok (.goto 4, 3) := by decide +kernel
theorem dX7_cells_37 : decode cX7_cells 37 = .ok (.iconst 0, 1) := by decide +kernel
theorem dX7_cells_38 : decode cX7_cells 38 = .ok (.aload_n 0, 1) := by decide +kernel
theorem dX7_cells_39 : decode cX7_cells 39 = .ok (.getfield 293, 3) := by decide +kernel
theorem dX7_cells_42 : decode cX7_cells 42 = .ok (.bipush 30, 2) := by decide +kernel
theorem dX7_cells_44 : decode cX7_cells 44 = .ok (.aload_n 0, 1) := by decide +kernel
theorem dX7_cells_45 : decode cX7_cells 45 = .ok (.getfield 293, 3) := by decide +kernel
theorem dX7_cells_48 : decode cX7_cells 48 = .ok (.invokevirtual 298, 3) := by decide +kernel
theorem dX7_cells_51 : decode cX7_cells 51 = .ok (.putfield 302, 3) := by decide +kernel
theorem dX7_cells_54 : decode cX7_cells 54 = .ok (.return_, 1) := by decide +kernel
theorem dX7_groundItem_0 : decode cX7_groundItem 0 = .ok (.aload_n 0, 1) := by decide +kernel
theorem dX7_groundItem_1 : decode cX7_groundItem 1 = .ok (.invokevirtual 305, 3) := by decide +kernel
theorem dX7_groundItem_4 : decode cX7_groundItem 4 = .ok (.aload_n 0, 1) := by decide +kernel
theorem dX7_groundItem_5 : decode cX7_groundItem 5 = .ok (.getfield 293, 3) := by decide +kernel
theorem dX7_groundItem_8 : decode cX7_groundItem 8 = .ok (.istore_n 2, 1) := by decide +kernel
theorem dX7_groundItem_9 : decode cX7_groundItem 9 = .ok (.iload_n 2, 1) := by decide +kernel
theorem dX7_groundItem_10 : decode cX7_groundItem 10 = .ok (.aload_n 0, 1) := by decide +kernel
theorem dX7_groundItem_11 : decode cX7_groundItem 11 = .ok (.getfield 302, 3) := by decide +kernel
theorem dX7_groundItem_14 : decode cX7_groundItem 14 = .ok (.if_icmp .gt 26, 3) := by decide +kernel
theorem dX7_groundItem_17 : decode cX7_groundItem 17 = .ok (.aload_n 0, 1) := by decide +kernel
theorem dX7_groundItem_18 : decode cX7_groundItem 18 = .ok (.getfield 245, 3) := by decide +kernel
theorem dX7_groundItem_21 : decode cX7_groundItem 21 = .ok (.ifCond .ne 19, 3) := by decide +kernel
theorem dX7_groundItem_24 : decode cX7_groundItem 24 = .ok (.aload_n 0, 1) := by decide +kernel
theorem dX7_groundItem_25 : decode cX7_groundItem 25 = .ok (.getfield 7, 3) := by decide +kernel
theorem dX7_groundItem_28 : decode cX7_groundItem 28 = .ok (.bipush 36, 2) := by decide +kernel
theorem dX7_groundItem_30 : decode cX7_groundItem 30 = .ok (.iload_n 2, 1) := by decide +kernel
theorem dX7_groundItem_31 : decode cX7_groundItem 31 = .ok (.iadd, 1) := by decide +kernel
theorem dX7_groundItem_32 : decode cX7_groundItem 32 = .ok (.iload_n 1, 1) := by decide +kernel
theorem dX7_groundItem_33 : decode cX7_groundItem 33 = .ok (.iastore, 1) := by decide +kernel
theorem dX7_groundItem_34 : decode cX7_groundItem 34 = .ok (.iinc 2 1, 3) := by decide +kernel
theorem dX7_groundItem_37 : decode cX7_groundItem 37 = .ok (.goto (-28), 3) := by decide +kernel
theorem dX7_groundItem_40 : decode cX7_groundItem 40 = .ok (.return_, 1) := by decide +kernel
theorem dX7_fallItem_0 : decode cX7_fallItem 0 = .ok (.aload_n 0, 1) := by decide +kernel
theorem dX7_fallItem_1 : decode cX7_fallItem 1 = .ok (.invokevirtual 305, 3) := by decide +kernel
theorem dX7_fallItem_4 : decode cX7_fallItem 4 = .ok (.aload_n 0, 1) := by decide +kernel
theorem dX7_fallItem_5 : decode cX7_fallItem 5 = .ok (.aload_n 0, 1) := by decide +kernel
theorem dX7_fallItem_6 : decode cX7_fallItem 6 = .ok (.invokevirtual 263, 3) := by decide +kernel
theorem dX7_fallItem_9 : decode cX7_fallItem 9 = .ok (.ldc2_w 308, 3) := by decide +kernel
theorem dX7_fallItem_12 : decode cX7_fallItem 12 = .ok (.lcmp, 1) := by decide +kernel
theorem dX7_fallItem_13 : decode cX7_fallItem 13 = .ok (.ifCond .ne 7, 3) := by decide +kernel
theorem dX7_fallItem_16 : decode cX7_fallItem 16 = .ok (.iconst 1, 1) := by decide +kernel
theorem dX7_fallItem_17 : decode cX7_fallItem 17 = .ok (.goto 4, 3) := by decide +kernel
theorem dX7_fallItem_20 : decode cX7_fallItem 20 = .ok (.iconst 0, 1) := by decide +kernel
theorem dX7_fallItem_21 : decode cX7_fallItem 21 = .ok (.invokevirtual 259, 3) := by decide +kernel
theorem dX7_fallItem_24 : decode cX7_fallItem 24 = .ok (.aload_n 0, 1) := by decide +kernel
theorem dX7_fallItem_25 : decode cX7_fallItem 25 = .ok (.getfield 245, 3) := by decide +kernel
theorem dX7_fallItem_28 : decode cX7_fallItem 28 = .ok (.ifCond .ne 20, 3) := by decide +kernel
theorem dX7_fallItem_31 : decode cX7_fallItem 31 = .ok (.aload_n 0, 1) := by decide +kernel
theorem dX7_fallItem_32 : decode cX7_fallItem 32 = .ok (.aload_n 0, 1) := by decide +kernel
theorem dX7_fallItem_33 : decode cX7_fallItem 33 = .ok (.getfield 233, 3) := by decide +kernel
theorem dX7_fallItem_36 : decode cX7_fallItem 36 = .ok (.invokevirtual 236, 3) := by decide +kernel
theorem dX7_fallItem_39 : decode cX7_fallItem 39 = .ok (.bipush 45, 2) := by decide +kernel
theorem dX7_fallItem_41 : decode cX7_fallItem 41 = .ok (.if_icmp .ne 7, 3) := by decide +kernel
theorem dX7_fallItem_44 : decode cX7_fallItem 44 = .ok (.iconst 1, 1) := by decide +kernel
theorem dX7_fallItem_45 : decode cX7_fallItem 45 = .ok (.goto 4, 3) := by decide +kernel
theorem dX7_fallItem_48 : decode cX7_fallItem 48 = .ok (.iconst 0, 1) := by decide +kernel
theorem dX7_fallItem_49 : decode cX7_fallItem 49 = .ok (.istore_n 1, 1) := by decide +kernel
theorem dX7_fallItem_50 : decode cX7_fallItem 50 = .ok (.iload_n 1, 1) := by decide +kernel
theorem dX7_fallItem_51 : decode cX7_fallItem 51 = .ok (.ifCond .eq 8, 3) := by decide +kernel
theorem dX7_fallItem_54 : decode cX7_fallItem 54 = .ok (.aload_n 0, 1) := by decide +kernel
theorem dX7_fallItem_55 : decode cX7_fallItem 55 = .ok (.iconst 1, 1) := by decide +kernel
theorem dX7_fallItem_56 : decode cX7_fallItem 56 = .ok (.invokevirtual 259, 3) := by decide +kernel
theorem dX7_fallItem_59 : decode cX7_fallItem 59 = .ok (.aload_n 0, 1) := by decide +kernel
theorem dX7_fallItem_60 : decode cX7_fallItem 60 = .ok (.iconst 0, 1) := by decide +kernel
theorem dX7_fallItem_61 : decode cX7_fallItem 61 = .ok (.bipush 9, 2) := by decide +kernel
theorem dX7_fallItem_63 : decode cX7_fallItem 63 = .ok (.invokevirtual 291, 3) := by decide +kernel
theorem dX7_fallItem_66 : decode cX7_fallItem 66 = .ok (.aload_n 0, 1) := by decide +kernel
theorem dX7_fallItem_67 : decode cX7_fallItem 67 = .ok (.getfield 293, 3) := by decide +kernel
theorem dX7_fallItem_70 : decode cX7_fallItem 70 = .ok (.istore_n 2, 1) := by decide +kernel
theorem dX7_fallItem_71 : decode cX7_fallItem 71 = .ok (.iload_n 2, 1) := by decide +kernel
theorem dX7_fallItem_72 : decode cX7_fallItem 72 = .ok (.aload_n 0, 1) := by decide +kernel
theorem dX7_fallItem_73 : decode cX7_fallItem 73 = .ok (.getfield 302, 3) := by decide +kernel
theorem dX7_fallItem_76 : decode cX7_fallItem 76 = .ok (.if_icmp .gt 41, 3) := by decide +kernel
theorem dX7_fallItem_79 : decode cX7_fallItem 79 = .ok (.aload_n 0, 1) := by decide +kernel
theorem dX7_fallItem_80 : decode cX7_fallItem 80 = .ok (.getfield 245, 3) := by decide +kernel
theorem dX7_fallItem_83 : decode cX7_fallItem 83 = .ok (.ifCond .ne 34, 3) := by decide +kernel
theorem dX7_fallItem_86 : decode cX7_fallItem 86 = .ok (.aload_n 0, 1) := by decide +kernel
theorem dX7_fallItem_87 : decode cX7_fallItem 87 = .ok (.getfield 7, 3) := by decide +kernel
theorem dX7_fallItem_90 : decode cX7_fallItem 90 = .ok (.iconst 5, 1) := by decide +kernel
theorem dX7_fallItem_91 : decode cX7_fallItem 91 = .ok (.iload_n 2, 1) := by decide +kernel
theorem dX7_fallItem_92 : decode cX7_fallItem 92 = .ok (.iadd, 1) := by decide +kernel
theorem dX7_fallItem_93 : decode cX7_fallItem 93 = .ok (.iload_n 1, 1) := by decide +kernel
theorem dX7_fallItem_94 : decode cX7_fallItem 94 = .ok (.ifCond .eq 12, 3) := by decide +kernel
theorem dX7_fallItem_97 : decode cX7_fallItem 97 = .ok (.iconst 0, 1) := by decide +kernel
theorem dX7_fallItem_98 : decode cX7_fallItem 98 = .ok (.aload_n 0, 1) := by decide +kernel
theorem dX7_fallItem_99 : decode cX7_fallItem 99 = .ok (.getfield 256, 3) := by decide +kernel
theorem dX7_fallItem_102 : decode cX7_fallItem 102 = .ok (.isub, 1) := by decide +kernel
theorem dX7_fallItem_103 : decode cX7_fallItem 103 = .ok (.goto 7, 3) := by decide +kernel
theorem dX7_fallItem_106 : decode cX7_fallItem 106 = .ok (.aload_n 0, 1) := by decide +kernel
theorem dX7_fallItem_107 : decode cX7_fallItem 107 = .ok (.getfield 256, 3) := by decide +kernel
theorem dX7_fallItem_110 : decode cX7_fallItem 110 = .ok (.iastore, 1) := by decide +kernel
theorem dX7_fallItem_111 : decode cX7_fallItem 111 = .ok (.iinc 2 1, 3) := by decide +kernel
theorem dX7_fallItem_114 : decode cX7_fallItem 114 = .ok (.goto (-43), 3) := by decide +kernel
theorem dX7_fallItem_117 : decode cX7_fallItem 117 = .ok (.return_, 1) := by decide +kernel
theorem dX7_shutItem_0 : decode cX7_shutItem 0 = .ok (.aload_n 0, 1) := by decide +kernel
theorem dX7_shutItem_1 : decode cX7_shutItem 1 = .ok (.aload_n 0, 1) := by decide +kernel
theorem dX7_shutItem_2 : decode cX7_shutItem 2 = .ok (.invokevirtual 263, 3) := by decide +kernel
theorem dX7_shutItem_5 : decode cX7_shutItem 5 = .ok (.ldc2_w 310, 3) := by decide +kernel
theorem dX7_shutItem_8 : decode cX7_shutItem 8 = .ok (.lcmp, 1) := by decide +kernel
theorem dX7_shutItem_9 : decode cX7_shutItem 9 = .ok (.ifCond .ne 7, 3) := by decide +kernel
theorem dX7_shutItem_12 : decode cX7_shutItem 12 = .ok (.iconst 1, 1) := by decide +kernel
theorem dX7_shutItem_13 : decode cX7_shutItem 13 = .ok (.goto 4, 3) := by decide +kernel
theorem dX7_shutItem_16 : decode cX7_shutItem 16 = .ok (.iconst 0, 1) := by decide +kernel
theorem dX7_shutItem_17 : decode cX7_shutItem 17 = .ok (.invokevirtual 259, 3) := by decide +kernel
theorem dX7_shutItem_20 : decode cX7_shutItem 20 = .ok (.aload_n 0, 1) := by decide +kernel
theorem dX7_shutItem_21 : decode cX7_shutItem 21 = .ok (.iconst 0, 1) := by decide +kernel
theorem dX7_shutItem_22 : decode cX7_shutItem 22 = .ok (.bipush 59, 2) := by decide +kernel
theorem dX7_shutItem_24 : decode cX7_shutItem 24 = .ok (.invokevirtual 291, 3) := by decide +kernel
theorem dX7_shutItem_27 : decode cX7_shutItem 27 = .ok (.aload_n 0, 1) := by decide +kernel
theorem dX7_shutItem_28 : decode cX7_shutItem 28 = .ok (.getfield 256, 3) := by decide +kernel
theorem dX7_shutItem_31 : decode cX7_shutItem 31 = .ok (.istore_n 1, 1) := by decide +kernel
theorem dX7_shutItem_32 : decode cX7_shutItem 32 = .ok (.aload_n 0, 1) := by decide +kernel
theorem dX7_shutItem_33 : decode cX7_shutItem 33 = .ok (.aload_n 0, 1) := by decide +kernel
theorem dX7_shutItem_34 : decode cX7_shutItem 34 = .ok (.invokevirtual 263, 3) := by decide +kernel
theorem dX7_shutItem_37 : decode cX7_shutItem 37 = .ok (.ldc2_w 296, 3) := by decide +kernel
theorem dX7_shutItem_40 : decode cX7_shutItem 40 = .ok (.lcmp, 1) := by decide +kernel
theorem dX7_shutItem_41 : decode cX7_shutItem 41 = .ok (.ifCond .ne 7, 3) := by decide +kernel
theorem dX7_shutItem_44 : decode cX7_shutItem 44 = .ok (.iconst 1, 1) := by decide +kernel
theorem dX7_shutItem_45 : decode cX7_shutItem 45 = .ok (.goto 4, 3) := by decide +kernel
theorem dX7_shutItem_48 : decode cX7_shutItem 48 = .ok (.iconst 0, 1) := by decide +kernel
theorem dX7_shutItem_49 : decode cX7_shutItem 49 = .ok (.invokevirtual 259, 3) := by decide +kernel
theorem dX7_shutItem_52 : decode cX7_shutItem 52 = .ok (.aload_n 0, 1) := by decide +kernel
theorem dX7_shutItem_53 : decode cX7_shutItem 53 = .ok (.iconst 0, 1) := by decide +kernel
theorem dX7_shutItem_54 : decode cX7_shutItem 54 = .ok (.bipush 59, 2) := by decide +kernel
theorem dX7_shutItem_56 : decode cX7_shutItem 56 = .ok (.invokevirtual 291, 3) := by decide +kernel
theorem dX7_shutItem_59 : decode cX7_shutItem 59 = .ok (.aload_n 0, 1) := by decide +kernel
theorem dX7_shutItem_60 : decode cX7_shutItem 60 = .ok (.getfield 245, 3) := by decide +kernel
theorem dX7_shutItem_63 : decode cX7_shutItem 63 = .ok (.ifCond .ne 20, 3) := by decide +kernel
theorem dX7_shutItem_66 : decode cX7_shutItem 66 = .ok (.aload_n 0, 1) := by decide +kernel
theorem dX7_shutItem_67 : decode cX7_shutItem 67 = .ok (.getfield 7, 3) := by decide +kernel
theorem dX7_shutItem_70 : decode cX7_shutItem 70 = .ok (.iconst 2, 1) := by decide +kernel
theorem dX7_shutItem_71 : decode cX7_shutItem 71 = .ok (.iload_n 1, 1) := by decide +kernel
theorem dX7_shutItem_72 : decode cX7_shutItem 72 = .ok (.iastore, 1) := by decide +kernel
theorem dX7_shutItem_73 : decode cX7_shutItem 73 = .ok (.aload_n 0, 1) := by decide +kernel
theorem dX7_shutItem_74 : decode cX7_shutItem 74 = .ok (.getfield 7, 3) := by decide +kernel
theorem dX7_shutItem_77 : decode cX7_shutItem 77 = .ok (.iconst 3, 1) := by decide +kernel
theorem dX7_shutItem_78 : decode cX7_shutItem 78 = .ok (.aload_n 0, 1) := by decide +kernel
theorem dX7_shutItem_79 : decode cX7_shutItem 79 = .ok (.getfield 256, 3) := by decide +kernel
theorem dX7_shutItem_82 : decode cX7_shutItem 82 = .ok (.iastore, 1) := by decide +kernel
theorem dX7_shutItem_83 : decode cX7_shutItem 83 = .ok (.return_, 1) := by decide +kernel
theorem dX7_thingItem_0 : decode cX7_thingItem 0 = .ok (.aload_n 0, 1) := by decide +kernel
theorem dX7_thingItem_1 : decode cX7_thingItem 1 = .ok (.aload_n 0, 1) := by decide +kernel
theorem dX7_thingItem_2 : decode cX7_thingItem 2 = .ok (.getfield 7, 3) := by decide +kernel
theorem dX7_thingItem_5 : decode cX7_thingItem 5 = .ok (.iconst 1, 1) := by decide +kernel
theorem dX7_thingItem_6 : decode cX7_thingItem 6 = .ok (.iaload, 1) := by decide +kernel
theorem dX7_thingItem_7 : decode cX7_thingItem 7 = .ok (.bipush 10, 2) := by decide +kernel
theorem dX7_thingItem_9 : decode cX7_thingItem 9 = .ok (.if_icmp .ge 7, 3) := by decide +kernel
theorem dX7_thingItem_12 : decode cX7_thingItem 12 = .ok (.iconst 1, 1) := by decide +kernel
theorem dX7_thingItem_13 : decode cX7_thingItem 13 = .ok (.goto 4, 3) := by decide +kernel
theorem dX7_thingItem_16 : decode cX7_thingItem 16 = .ok (.iconst 0, 1) := by decide +kernel
theorem dX7_thingItem_17 : decode cX7_thingItem 17 = .ok (.invokevirtual 259, 3) := by decide +kernel
theorem dX7_thingItem_20 : decode cX7_thingItem 20 = .ok (.aload_n 0, 1) := by decide +kernel
theorem dX7_thingItem_21 : decode cX7_thingItem 21 = .ok (.aload_n 0, 1) := by decide +kernel
theorem dX7_thingItem_22 : decode cX7_thingItem 22 = .ok (.invokevirtual 263, 3) := by decide +kernel
theorem dX7_thingItem_25 : decode cX7_thingItem 25 = .ok (.ldc2_w 312, 3) := by decide +kernel
theorem dX7_thingItem_28 : decode cX7_thingItem 28 = .ok (.lcmp, 1) := by decide +kernel
theorem dX7_thingItem_29 : decode cX7_thingItem 29 = .ok (.ifCond .ne 7, 3) := by decide +kernel
theorem dX7_thingItem_32 : decode cX7_thingItem 32 = .ok (.iconst 1, 1) := by decide +kernel
theorem dX7_thingItem_33 : decode cX7_thingItem 33 = .ok (.goto 4, 3) := by decide +kernel
theorem dX7_thingItem_36 : decode cX7_thingItem 36 = .ok (.iconst 0, 1) := by decide +kernel
theorem dX7_thingItem_37 : decode cX7_thingItem 37 = .ok (.iconst 1, 1) := by decide +kernel
theorem dX7_thingItem_38 : decode cX7_thingItem 38 = .ok (.bipush 99, 2) := by decide +kernel
theorem dX7_thingItem_40 : decode cX7_thingItem 40 = .ok (.bipush 10, 2) := by decide +kernel
theorem dX7_thingItem_42 : decode cX7_thingItem 42 = .ok (.invokevirtual 298, 3) := by decide +kernel
theorem dX7_thingItem_45 : decode cX7_thingItem 45 = .ok (.istore_n 2, 1) := by decide +kernel
theorem dX7_thingItem_46 : decode cX7_thingItem 46 = .ok (.aload_n 0, 1) := by decide +kernel
theorem dX7_thingItem_47 : decode cX7_thingItem 47 = .ok (.aload_n 0, 1) := by decide +kernel
theorem dX7_thingItem_48 : decode cX7_thingItem 48 = .ok (.invokevirtual 263, 3) := by decide +kernel
theorem dX7_thingItem_51 : decode cX7_thingItem 51 = .ok (.ldc2_w 314, 3) := by decide +kernel
theorem dX7_thingItem_54 : decode cX7_thingItem 54 = .ok (.lcmp, 1) := by decide +kernel
theorem dX7_thingItem_55 : decode cX7_thingItem 55 = .ok (.ifCond .ne 7, 3) := by decide +kernel
theorem dX7_thingItem_58 : decode cX7_thingItem 58 = .ok (.iconst 1, 1) := by decide +kernel
theorem dX7_thingItem_59 : decode cX7_thingItem 59 = .ok (.goto 4, 3) := by decide +kernel
theorem dX7_thingItem_62 : decode cX7_thingItem 62 = .ok (.iconst 0, 1) := by decide +kernel
theorem dX7_thingItem_63 : decode cX7_thingItem 63 = .ok (.iconst 1, 1) := by decide +kernel
theorem dX7_thingItem_64 : decode cX7_thingItem 64 = .ok (.bipush 9, 2) := by decide +kernel
theorem dX7_thingItem_66 : decode cX7_thingItem 66 = .ok (.iconst 4, 1) := by decide +kernel
theorem dX7_thingItem_67 : decode cX7_thingItem 67 = .ok (.invokevirtual 298, 3) := by decide +kernel
theorem dX7_thingItem_70 : decode cX7_thingItem 70 = .ok (.istore_n 3, 1) := by decide +kernel
theorem dX7_thingItem_71 : decode cX7_thingItem 71 = .ok (.aload_n 0, 1) := by decide +kernel
theorem dX7_thingItem_72 : decode cX7_thingItem 72 = .ok (.aload_n 0, 1) := by decide +kernel
theorem dX7_thingItem_73 : decode cX7_thingItem 73 = .ok (.invokevirtual 263, 3) := by decide +kernel
theorem dX7_thingItem_76 : decode cX7_thingItem 76 = .ok (.ldc2_w 316, 3) := by decide +kernel
theorem dX7_thingItem_79 : decode cX7_thingItem 79 = .ok (.lcmp, 1) := by decide +kernel
theorem dX7_thingItem_80 : decode cX7_thingItem 80 = .ok (.ifCond .ne 7, 3) := by decide +kernel
theorem dX7_thingItem_83 : decode cX7_thingItem 83 = .ok (.iconst 1, 1) := by decide +kernel
theorem dX7_thingItem_84 : decode cX7_thingItem 84 = .ok (.goto 4, 3) := by decide +kernel
theorem dX7_thingItem_87 : decode cX7_thingItem 87 = .ok (.iconst 0, 1) := by decide +kernel
theorem dX7_thingItem_88 : decode cX7_thingItem 88 = .ok (.iconst 0, 1) := by decide +kernel
theorem dX7_thingItem_89 : decode cX7_thingItem 89 = .ok (.bipush 9, 2) := by decide +kernel
theorem dX7_thingItem_91 : decode cX7_thingItem 91 = .ok (.iconst 0, 1) := by decide +kernel
theorem dX7_thingItem_92 : decode cX7_thingItem 92 = .ok (.invokevirtual 298, 3) := by decide +kernel
theorem dX7_thingItem_95 : decode cX7_thingItem 95 = .ok (.istore 4, 2) := by decide +kernel
theorem dX7_thingItem_97 : decode cX7_thingItem 97 = .ok (.aload_n 0, 1) := by decide +kernel
theorem dX7_thingItem_98 : decode cX7_thingItem 98 = .ok (.getfield 245, 3) := by decide +kernel
theorem dX7_thingItem_101 : decode cX7_thingItem 101 = .ok (.ifCond .ne 14, 3) := by decide +kernel
theorem dX7_thingItem_104 : decode cX7_thingItem 104 = .ok (.aload_n 0, 1) := by decide +kernel
theorem dX7_thingItem_105 : decode cX7_thingItem 105 = .ok (.iload_n 1, 1) := by decide +kernel
theorem dX7_thingItem_106 : decode cX7_thingItem 106 = .ok (.iload_n 2, 1) := by decide +kernel
theorem dX7_thingItem_107 : decode cX7_thingItem 107 = .ok (.iload_n 3, 1) := by decide +kernel
theorem dX7_thingItem_108 : decode cX7_thingItem 108 = .ok (.iload 4, 2) := by decide +kernel
theorem dX7_thingItem_110 : decode cX7_thingItem 110 = .ok (.invokevirtual 85, 3) := by decide +kernel
theorem dX7_thingItem_113 : decode cX7_thingItem 113 = .ok (.istore 5, 2) := by decide +kernel
theorem dX7_thingItem_115 : decode cX7_thingItem 115 = .ok (.return_, 1) := by decide +kernel
theorem dX7_item_0 : decode cX7_item 0 = .ok (.aload_n 0, 1) := by decide +kernel
theorem dX7_item_1 : decode cX7_item 1 = .ok (.invokevirtual 318, 3) := by decide +kernel
theorem dX7_item_4 : decode cX7_item 4 = .ok (.istore_n 1, 1) := by decide +kernel
theorem dX7_item_5 : decode cX7_item 5 = .ok (.aload_n 0, 1) := by decide +kernel
theorem dX7_item_6 : decode cX7_item 6 = .ok (.invokevirtual 321, 3) := by decide +kernel
theorem dX7_item_9 : decode cX7_item 9 = .ok (.istore_n 2, 1) := by decide +kernel
theorem dX7_item_10 : decode cX7_item 10 = .ok (.iload_n 1, 1) := by decide +kernel
theorem dX7_item_11 : decode cX7_item 11 = .ok (.ifCond .lt 11, 3) := by decide +kernel
theorem dX7_item_14 : decode cX7_item 14 = .ok (.aload_n 0, 1) := by decide +kernel
theorem dX7_item_15 : decode cX7_item 15 = .ok (.iload_n 1, 1) := by decide +kernel
theorem dX7_item_16 : decode cX7_item 16 = .ok (.invokevirtual 324, 3) := by decide +kernel
theorem dX7_item_19 : decode cX7_item 19 = .ok (.goto 37, 3) := by decide +kernel
theorem dX7_item_22 : decode cX7_item 22 = .ok (.iload_n 2, 1) := by decide +kernel
theorem dX7_item_23 : decode cX7_item 23 = .ok (.ifCond .lt 11, 3) := by decide +kernel
theorem dX7_item_26 : decode cX7_item 26 = .ok (.aload_n 0, 1) := by decide +kernel
theorem dX7_item_27 : decode cX7_item 27 = .ok (.iload_n 2, 1) := by decide +kernel
theorem dX7_item_28 : decode cX7_item 28 = .ok (.invokevirtual 328, 3) := by decide +kernel
theorem dX7_item_31 : decode cX7_item 31 = .ok (.goto 25, 3) := by decide +kernel
theorem dX7_item_34 : decode cX7_item 34 = .ok (.aload_n 0, 1) := by decide +kernel
theorem dX7_item_35 : decode cX7_item 35 = .ok (.invokevirtual 263, 3) := by decide +kernel
theorem dX7_item_38 : decode cX7_item 38 = .ok (.ldc2_w 331, 3) := by decide +kernel
theorem dX7_item_41 : decode cX7_item 41 = .ok (.lcmp, 1) := by decide +kernel
theorem dX7_item_42 : decode cX7_item 42 = .ok (.ifCond .ne 10, 3) := by decide +kernel
theorem dX7_item_45 : decode cX7_item 45 = .ok (.aload_n 0, 1) := by decide +kernel
theorem dX7_item_46 : decode cX7_item 46 = .ok (.invokevirtual 333, 3) := by decide +kernel
theorem dX7_item_49 : decode cX7_item 49 = .ok (.goto 7, 3) := by decide +kernel
theorem dX7_item_52 : decode cX7_item 52 = .ok (.aload_n 0, 1) := by decide +kernel
theorem dX7_item_53 : decode cX7_item 53 = .ok (.invokevirtual 336, 3) := by decide +kernel
theorem dX7_item_56 : decode cX7_item 56 = .ok (.return_, 1) := by decide +kernel
theorem dX7_text_0 : decode cX7_text 0 = .ok (.aload_n 0, 1) := by decide +kernel
theorem dX7_text_1 : decode cX7_text 1 = .ok (.invokevirtual 148, 3) := by decide +kernel
theorem dX7_text_4 : decode cX7_text 4 = .ok (.aload_n 0, 1) := by decide +kernel
theorem dX7_text_5 : decode cX7_text 5 = .ok (.iconst 0, 1) := by decide +kernel
theorem dX7_text_6 : decode cX7_text 6 = .ok (.putfield 230, 3) := by decide +kernel
theorem dX7_text_9 : decode cX7_text 9 = .ok (.aload_n 0, 1) := by decide +kernel
theorem dX7_text_10 : decode cX7_text 10 = .ok (.iconst 0, 1) := by decide +kernel
theorem dX7_text_11 : decode cX7_text 11 = .ok (.putfield 245, 3) := by decide +kernel
theorem dX7_text_14 : decode cX7_text 14 = .ok (.aload_n 0, 1) := by decide +kernel
theorem dX7_text_15 : decode cX7_text 15 = .ok (.invokevirtual 249, 3) := by decide +kernel
theorem dX7_text_18 : decode cX7_text 18 = .ok (.iconst 1, 1) := by decide +kernel
theorem dX7_text_19 : decode cX7_text 19 = .ok (.istore_n 1, 1) := by decide +kernel
theorem dX7_text_20 : decode cX7_text 20 = .ok (.aload_n 0, 1) := by decide +kernel
theorem dX7_text_21 : decode cX7_text 21 = .ok (.invokevirtual 339, 3) := by decide +kernel
theorem dX7_text_24 : decode cX7_text 24 = .ok (.aload_n 0, 1) := by decide +kernel
theorem dX7_text_25 : decode cX7_text 25 = .ok (.getfield 245, 3) := by decide +kernel
theorem dX7_text_28 : decode cX7_text 28 = .ok (.ifCond .ne 46, 3) := by decide +kernel
theorem dX7_text_31 : decode cX7_text 31 = .ok (.aload_n 0, 1) := by decide +kernel
theorem dX7_text_32 : decode cX7_text 32 = .ok (.getfield 233, 3) := by decide +kernel
theorem dX7_text_35 : decode cX7_text 35 = .ok (.aload_n 0, 1) := by decide +kernel
theorem dX7_text_36 : decode cX7_text 36 = .ok (.getfield 219, 3) := by decide +kernel
theorem dX7_text_39 : decode cX7_text 39 = .ok (.if_icmp .ge 35, 3) := by decide +kernel
theorem dX7_text_42 : decode cX7_text 42 = .ok (.aload_n 0, 1) := by decide +kernel
theorem dX7_text_43 : decode cX7_text 43 = .ok (.aload_n 0, 1) := by decide +kernel
theorem dX7_text_44 : decode cX7_text 44 = .ok (.aload_n 0, 1) := by decide +kernel
theorem dX7_text_45 : decode cX7_text 45 = .ok (.getfield 233, 3) := by decide +kernel
theorem dX7_text_48 : decode cX7_text 48 = .ok (.invokevirtual 236, 3) := by decide +kernel
theorem dX7_text_51 : decode cX7_text 51 = .ok (.bipush 59, 2) := by decide +kernel
theorem dX7_text_53 : decode cX7_text 53 = .ok (.if_icmp .ne 7, 3) := by decide +kernel
theorem dX7_text_56 : decode cX7_text 56 = .ok (.iconst 1, 1) := by decide +kernel
theorem dX7_text_57 : decode cX7_text 57 = .ok (.goto 4, 3) := by decide +kernel
theorem dX7_text_60 : decode cX7_text 60 = .ok (.iconst 0, 1) := by decide +kernel
theorem dX7_text_61 : decode cX7_text 61 = .ok (.invokevirtual 259, 3) := by decide +kernel
theorem dX7_text_64 : decode cX7_text 64 = .ok (.aload_n 0, 1) := by decide +kernel
theorem dX7_text_65 : decode cX7_text 65 = .ok (.invokevirtual 339, 3) := by decide +kernel
theorem dX7_text_68 : decode cX7_text 68 = .ok (.iinc 1 1, 3) := by decide +kernel
theorem dX7_text_71 : decode cX7_text 71 = .ok (.goto (-47), 3) := by decide +kernel
theorem dX7_text_74 : decode cX7_text 74 = .ok (.aload_n 0, 1) := by decide +kernel
theorem dX7_text_75 : decode cX7_text 75 = .ok (.iconst 0, 1) := by decide +kernel
theorem dX7_text_76 : decode cX7_text 76 = .ok (.putfield 219, 3) := by decide +kernel
theorem dX7_text_79 : decode cX7_text 79 = .ok (.aload_n 0, 1) := by decide +kernel
theorem dX7_text_80 : decode cX7_text 80 = .ok (.getfield 245, 3) := by decide +kernel
theorem dX7_text_83 : decode cX7_text 83 = .ok (.ifCond .eq 14, 3) := by decide +kernel
theorem dX7_text_86 : decode cX7_text 86 = .ok (.aload_n 0, 1) := by decide +kernel
theorem dX7_text_87 : decode cX7_text 87 = .ok (.invokevirtual 154, 3) := by decide +kernel
theorem dX7_text_90 : decode cX7_text 90 = .ok (.iconst (-1), 1) := by decide +kernel
theorem dX7_text_91 : decode cX7_text 91 = .ok (.aload_n 0, 1) := by decide +kernel
theorem dX7_text_92 : decode cX7_text 92 = .ok (.getfield 233, 3) := by decide +kernel
theorem dX7_text_95 : decode cX7_text 95 = .ok (.isub, 1) := by decide +kernel
theorem dX7_text_96 : decode cX7_text 96 = .ok (.ireturn, 1) := by decide +kernel
theorem dX7_text_97 : decode cX7_text 97 = .ok (.iload_n 1, 1) := by decide +kernel
theorem dX7_text_98 : decode cX7_text 98 = .ok (.ireturn, 1) := by decide +kernel
theorem dX7_hold_0 : decode cX7_hold 0 = .ok (.iload_n 1, 1) := by decide +kernel
theorem dX7_hold_1 : decode cX7_hold 1 = .ok (.i2l, 1) := by decide +kernel
theorem dX7_hold_2 : decode cX7_hold 2 = .ok (.lconst 0, 1) := by decide +kernel
theorem dX7_hold_3 : decode cX7_hold 3 = .ok (.ldc2_w 57, 3) := by decide +kernel
theorem dX7_hold_6 : decode cX7_hold 6 = .ok (.invokestatic 46, 3) := by decide +kernel
theorem dX7_hold_9 : decode cX7_hold 9 = .ok (.ifCond .eq 16, 3) := by decide +kernel
theorem dX7_hold_12 : decode cX7_hold 12 = .ok (.iload_n 2, 1) := by decide +kernel
theorem dX7_hold_13 : decode cX7_hold 13 = .ok (.iconst (-1), 1) := by decide +kernel
theorem dX7_hold_14 : decode cX7_hold 14 = .ok (.if_icmp .eq 18, 3) := by decide +kernel
theorem dX7_hold_17 : decode cX7_hold 17 = .ok (.aload_n 0, 1) := by decide +kernel
theorem dX7_hold_18 : decode cX7_hold 18 = .ok (.iload_n 2, 1) := by decide +kernel
theorem dX7_hold_19 : decode cX7_hold 19 = .ok (.invokevirtual 92, 3) := by decide +kernel
theorem dX7_hold_22 : decode cX7_hold 22 = .ok (.ifCond .ne 10, 3) := by decide +kernel
theorem dX7_hold_25 : decode cX7_hold 25 = .ok (.aload_n 0, 1) := by decide +kernel
theorem dX7_hold_26 : decode cX7_hold 26 = .ok (.ldc 43, 2) := by decide +kernel
theorem dX7_hold_28 : decode cX7_hold 28 = .ok (.invokevirtual 59, 3) := by decide +kernel
theorem dX7_hold_31 : decode cX7_hold 31 = .ok (.ireturn, 1) := by decide +kernel
theorem dX7_hold_32 : decode cX7_hold 32 = .ok (.aload_n 0, 1) := by decide +kernel
theorem dX7_hold_33 : decode cX7_hold 33 = .ok (.getfield 7, 3) := by decide +kernel
theorem dX7_hold_36 : decode cX7_hold 36 = .ok (.sipush 157, 3) := by decide +kernel
theorem dX7_hold_39 : decode cX7_hold 39 = .ok (.iload_n 1, 1) := by decide +kernel
theorem dX7_hold_40 : decode cX7_hold 40 = .ok (.iadd, 1) := by decide +kernel
theorem dX7_hold_41 : decode cX7_hold 41 = .ok (.iload_n 2, 1) := by decide +kernel
theorem dX7_hold_42 : decode cX7_hold 42 = .ok (.iastore, 1) := by decide +kernel
theorem dX7_hold_43 : decode cX7_hold 43 = .ok (.iconst 1, 1) := by decide +kernel
theorem dX7_hold_44 : decode cX7_hold 44 = .ok (.ireturn, 1) := by decide +kernel
theorem dX7_as_0 : decode cX7_as 0 = .ok (.iload_n 1, 1) := by decide +kernel
theorem dX7_as_1 : decode cX7_as 1 = .ok (.i2l, 1) := by decide +kernel
theorem dX7_as_2 : decode cX7_as 2 = .ok (.lconst 0, 1) := by decide +kernel
theorem dX7_as_3 : decode cX7_as 3 = .ok (.ldc2_w 57, 3) := by decide +kernel
theorem dX7_as_6 : decode cX7_as 6 = .ok (.invokestatic 46, 3) := by decide +kernel
theorem dX7_as_9 : decode cX7_as 9 = .ok (.ifCond .eq 15, 3) := by decide +kernel
theorem dX7_as_12 : decode cX7_as 12 = .ok (.iload_n 2, 1) := by decide +kernel
theorem dX7_as_13 : decode cX7_as 13 = .ok (.i2l, 1) := by decide +kernel
theorem dX7_as_14 : decode cX7_as 14 = .ok (.lconst 0, 1) := by decide +kernel
theorem dX7_as_15 : decode cX7_as 15 = .ok (.ldc2_w 76, 3) := by decide +kernel
theorem dX7_as_18 : decode cX7_as 18 = .ok (.invokestatic 46, 3) := by decide +kernel
theorem dX7_as_21 : decode cX7_as 21 = .ok (.ifCond .ne 10, 3) := by decide +kernel
theorem dX7_as_24 : decode cX7_as 24 = .ok (.aload_n 0, 1) := by decide +kernel
theorem dX7_as_25 : decode cX7_as 25 = .ok (.ldc 43, 2) := by decide +kernel
theorem dX7_as_27 : decode cX7_as 27 = .ok (.invokevirtual 59, 3) := by decide +kernel
theorem dX7_as_30 : decode cX7_as 30 = .ok (.ireturn, 1) := by decide +kernel
theorem dX7_as_31 : decode cX7_as 31 = .ok (.aload_n 0, 1) := by decide +kernel
theorem dX7_as_32 : decode cX7_as 32 = .ok (.getfield 7, 3) := by decide +kernel
theorem dX7_as_35 : decode cX7_as 35 = .ok (.sipush 157, 3) := by decide +kernel
theorem dX7_as_38 : decode cX7_as 38 = .ok (.iload_n 1, 1) := by decide +kernel
theorem dX7_as_39 : decode cX7_as 39 = .ok (.iadd, 1) := by decide +kernel
theorem dX7_as_40 : decode cX7_as 40 = .ok (.iaload, 1) := by decide +kernel
theorem dX7_as_41 : decode cX7_as 41 = .ok (.istore_n 3, 1) := by decide +kernel
theorem dX7_as_42 : decode cX7_as 42 = .ok (.iload_n 3, 1) := by decide +kernel
theorem dX7_as_43 : decode cX7_as 43 = .ok (.ifCond .ge 11, 3) := by decide +kernel
theorem dX7_as_46 : decode cX7_as 46 = .ok (.aload_n 0, 1) := by decide +kernel
theorem dX7_as_47 : decode cX7_as 47 = .ok (.ldc_w 342, 3) := by decide +kernel
theorem dX7_as_50 : decode cX7_as 50 = .ok (.invokevirtual 59, 3) := by decide +kernel
theorem dX7_as_53 : decode cX7_as 53 = .ok (.ireturn, 1) := by decide +kernel
theorem dX7_as_54 : decode cX7_as 54 = .ok (.aload_n 0, 1) := by decide +kernel
theorem dX7_as_55 : decode cX7_as 55 = .ok (.iload_n 3, 1) := by decide +kernel
theorem dX7_as_56 : decode cX7_as 56 = .ok (.iconst 0, 1) := by decide +kernel
theorem dX7_as_57 : decode cX7_as 57 = .ok (.invokevirtual 89, 3) := by decide +kernel
theorem dX7_as_60 : decode cX7_as 60 = .ok (.istore 4, 2) := by decide +kernel
theorem dX7_as_62 : decode cX7_as 62 = .ok (.iload_n 2, 1) := by decide +kernel
theorem dX7_as_63 : decode cX7_as 63 = .ok (.ifCond .eq 37, 3) := by decide +kernel
theorem dX7_as_66 : decode cX7_as 66 = .ok (.iload 4, 2) := by decide +kernel
theorem dX7_as_68 : decode cX7_as 68 = .ok (.iload_n 2, 1) := by decide +kernel
theorem dX7_as_69 : decode cX7_as 69 = .ok (.if_icmp .eq 31, 3) := by decide +kernel
theorem dX7_as_72 : decode cX7_as 72 = .ok (.iload_n 2, 1) := by decide +kernel
theorem dX7_as_73 : decode cX7_as 73 = .ok (.iconst 1, 1) := by decide +kernel
theorem dX7_as_74 : decode cX7_as 74 = .ok (.if_icmp .ne 15, 3) := by decide +kernel
theorem dX7_as_77 : decode cX7_as 77 = .ok (.iload 4, 2) := by decide +kernel
theorem dX7_as_79 : decode cX7_as 79 = .ok (.iconst 3, 1) := by decide +kernel
theorem dX7_as_80 : decode cX7_as 80 = .ok (.if_icmp .eq 20, 3) := by decide +kernel
theorem dX7_as_83 : decode cX7_as 83 = .ok (.iload 4, 2) := by decide +kernel
theorem dX7_as_85 : decode cX7_as 85 = .ok (.iconst 5, 1) := by decide +kernel
theorem dX7_as_86 : decode cX7_as 86 = .ok (.if_icmp .eq 14, 3) := by decide +kernel
theorem dX7_as_89 : decode cX7_as 89 = .ok (.iload_n 2, 1) := by decide +kernel
theorem dX7_as_90 : decode cX7_as 90 = .ok (.iconst 2, 1) := by decide +kernel
theorem dX7_as_91 : decode cX7_as 91 = .ok (.if_icmp .ne 13, 3) := by decide +kernel
theorem dX7_as_94 : decode cX7_as 94 = .ok (.iload 4, 2) := by decide +kernel
theorem dX7_as_96 : decode cX7_as 96 = .ok (.iconst 4, 1) := by decide +kernel
theorem dX7_as_97 : decode cX7_as 97 = .ok (.if_icmp .ne 7, 3) := by decide +kernel
theorem dX7_as_100 : decode cX7_as 100 = .ok (.iconst 1, 1) := by decide +kernel
theorem dX7_as_101 : decode cX7_as 101 = .ok (.goto 4, 3) := by decide +kernel
theorem dX7_as_104 : decode cX7_as 104 = .ok (.iconst 0, 1) := by decide +kernel
theorem dX7_as_105 : decode cX7_as 105 = .ok (.istore 5, 2) := by decide +kernel
theorem dX7_as_107 : decode cX7_as 107 = .ok (.iload 5, 2) := by decide +kernel
theorem dX7_as_109 : decode cX7_as 109 = .ok (.ifCond .eq 7, 3) := by decide +kernel
theorem dX7_as_112 : decode cX7_as 112 = .ok (.iload_n 3, 1) := by decide +kernel
theorem dX7_as_113 : decode cX7_as 113 = .ok (.goto 10, 3) := by decide +kernel
theorem dX7_as_116 : decode cX7_as 116 = .ok (.aload_n 0, 1) := by decide +kernel
theorem dX7_as_117 : decode cX7_as 117 = .ok (.ldc_w 343, 3) := by decide +kernel
theorem dX7_as_120 : decode cX7_as 120 = .ok (.invokevirtual 59, 3) := by decide +kernel
theorem dX7_as_123 : decode cX7_as 123 = .ok (.ireturn, 1) := by decide +kernel
theorem dX7_isOne_0 : decode cX7_isOne 0 = .ok (.iload_n 0, 1) := by decide +kernel
theorem dX7_isOne_1 : decode cX7_isOne 1 = .ok (.i2l, 1) := by decide +kernel
theorem dX7_isOne_2 : decode cX7_isOne 2 = .ok (.lconst 0, 1) := by decide +kernel
theorem dX7_isOne_3 : decode cX7_isOne 3 = .ok (.ldc2_w 138, 3) := by decide +kernel
theorem dX7_isOne_6 : decode cX7_isOne 6 = .ok (.invokestatic 46, 3) := by decide +kernel
theorem dX7_isOne_9 : decode cX7_isOne 9 = .ok (.ireturn, 1) := by decide +kernel
theorem dX7_sheet_0 : decode cX7_sheet 0 = .ok (.iload_n 1, 1) := by decide +kernel
theorem dX7_sheet_1 : decode cX7_sheet 1 = .ok (.invokestatic 344, 3) := by decide +kernel
theorem dX7_sheet_4 : decode cX7_sheet 4 = .ok (.ifCond .eq 25, 3) := by decide +kernel
theorem dX7_sheet_7 : decode cX7_sheet 7 = .ok (.iload_n 2, 1) := by decide +kernel
theorem dX7_sheet_8 : decode cX7_sheet 8 = .ok (.ifCond .eq 28, 3) := by decide +kernel
theorem dX7_sheet_11 : decode cX7_sheet 11 = .ok (.iload_n 2, 1) := by decide +kernel
theorem dX7_sheet_12 : decode cX7_sheet 12 = .ok (.bipush 8, 2) := by decide +kernel
theorem dX7_sheet_14 : decode cX7_sheet 14 = .ok (.if_icmp .eq 22, 3) := by decide +kernel
theorem dX7_sheet_17 : decode cX7_sheet 17 = .ok (.iload_n 2, 1) := by decide +kernel
theorem dX7_sheet_18 : decode cX7_sheet 18 = .ok (.bipush 16, 2) := by decide +kernel
theorem dX7_sheet_20 : decode cX7_sheet 20 = .ok (.if_icmp .eq 16, 3) := by decide +kernel
theorem dX7_sheet_23 : decode cX7_sheet 23 = .ok (.iload_n 2, 1) := by decide +kernel
theorem dX7_sheet_24 : decode cX7_sheet 24 = .ok (.bipush 32, 2) := by decide +kernel
theorem dX7_sheet_26 : decode cX7_sheet 26 = .ok (.if_icmp .eq 10, 3) := by decide +kernel
theorem dX7_sheet_29 : decode cX7_sheet 29 = .ok (.aload_n 0, 1) := by decide +kernel
theorem dX7_sheet_30 : decode cX7_sheet 30 = .ok (.ldc 43, 2) := by decide +kernel
theorem dX7_sheet_32 : decode cX7_sheet 32 = .ok (.invokevirtual 59, 3) := by decide +kernel
theorem dX7_sheet_35 : decode cX7_sheet 35 = .ok (.ireturn, 1) := by decide +kernel
theorem dX7_sheet_36 : decode cX7_sheet 36 = .ok (.iload_n 3, 1) := by decide +kernel
theorem dX7_sheet_37 : decode cX7_sheet 37 = .ok (.ifCond .ge 11, 3) := by decide +kernel
theorem dX7_sheet_40 : decode cX7_sheet 40 = .ok (.aload_n 0, 1) := by decide +kernel
theorem dX7_sheet_41 : decode cX7_sheet 41 = .ok (.ldc_w 347, 3) := by decide +kernel
theorem dX7_sheet_44 : decode cX7_sheet 44 = .ok (.invokevirtual 59, 3) := by decide +kernel
theorem dX7_sheet_47 : decode cX7_sheet 47 = .ok (.ireturn, 1) := by decide +kernel
theorem dX7_sheet_48 : decode cX7_sheet 48 = .ok (.iload_n 3, 1) := by decide +kernel
theorem dX7_sheet_49 : decode cX7_sheet 49 = .ok (.bipush 40, 2) := by decide +kernel
theorem dX7_sheet_51 : decode cX7_sheet 51 = .ok (.if_icmp .le 10, 3) := by decide +kernel
theorem dX7_sheet_54 : decode cX7_sheet 54 = .ok (.aload_n 0, 1) := by decide +kernel
theorem dX7_sheet_55 : decode cX7_sheet 55 = .ok (.ldc 43, 2) := by decide +kernel
theorem dX7_sheet_57 : decode cX7_sheet 57 = .ok (.invokevirtual 59, 3) := by decide +kernel
theorem dX7_sheet_60 : decode cX7_sheet 60 = .ok (.ireturn, 1) := by decide +kernel
theorem dX7_sheet_61 : decode cX7_sheet 61 = .ok (.aload_n 0, 1) := by decide +kernel
theorem dX7_sheet_62 : decode cX7_sheet 62 = .ok (.getfield 31, 3) := by decide +kernel
theorem dX7_sheet_65 : decode cX7_sheet 65 = .ok (.iload_n 1, 1) := by decide +kernel
theorem dX7_sheet_66 : decode cX7_sheet 66 = .ok (.iload_n 2, 1) := by decide +kernel
theorem dX7_sheet_67 : decode cX7_sheet 67 = .ok (.iastore, 1) := by decide +kernel
theorem dX7_sheet_68 : decode cX7_sheet 68 = .ok (.aload_n 0, 1) := by decide +kernel
theorem dX7_sheet_69 : decode cX7_sheet 69 = .ok (.getfield 34, 3) := by decide +kernel
theorem dX7_sheet_72 : decode cX7_sheet 72 = .ok (.iload_n 1, 1) := by decide +kernel
theorem dX7_sheet_73 : decode cX7_sheet 73 = .ok (.iload_n 2, 1) := by decide +kernel
theorem dX7_sheet_74 : decode cX7_sheet 74 = .ok (.ifCond .ne 7, 3) := by decide +kernel
theorem dX7_sheet_77 : decode cX7_sheet 77 = .ok (.iconst 0, 1) := by decide +kernel
theorem dX7_sheet_78 : decode cX7_sheet 78 = .ok (.goto 4, 3) := by decide +kernel
theorem dX7_sheet_81 : decode cX7_sheet 81 = .ok (.iload_n 3, 1) := by decide +kernel
theorem dX7_sheet_82 : decode cX7_sheet 82 = .ok (.iastore, 1) := by decide +kernel
theorem dX7_sheet_83 : decode cX7_sheet 83 = .ok (.iconst 0, 1) := by decide +kernel
theorem dX7_sheet_84 : decode cX7_sheet 84 = .ok (.istore 4, 2) := by decide +kernel
theorem dX7_sheet_86 : decode cX7_sheet 86 = .ok (.iload 4, 2) := by decide +kernel
theorem dX7_sheet_88 : decode cX7_sheet 88 = .ok (.bipush 40, 2) := by decide +kernel
theorem dX7_sheet_90 : decode cX7_sheet 90 = .ok (.if_icmp .ge 22, 3) := by decide +kernel
theorem dX7_sheet_93 : decode cX7_sheet 93 = .ok (.aload_n 0, 1) := by decide +kernel
theorem dX7_sheet_94 : decode cX7_sheet 94 = .ok (.getfield 37, 3) := by decide +kernel
theorem dX7_sheet_97 : decode cX7_sheet 97 = .ok (.bipush 40, 2) := by decide +kernel
theorem dX7_sheet_99 : decode cX7_sheet 99 = .ok (.iload_n 1, 1) := by decide +kernel
theorem dX7_sheet_100 : decode cX7_sheet 100 = .ok (.imul, 1) := by decide +kernel
theorem dX7_sheet_101 : decode cX7_sheet 101 = .ok (.iload 4, 2) := by decide +kernel
theorem dX7_sheet_103 : decode cX7_sheet 103 = .ok (.iadd, 1) := by decide +kernel
theorem dX7_sheet_104 : decode cX7_sheet 104 = .ok (.iconst 0, 1) := by decide +kernel
theorem dX7_sheet_105 : decode cX7_sheet 105 = .ok (.iastore, 1) := by decide +kernel
theorem dX7_sheet_106 : decode cX7_sheet 106 = .ok (.iinc 4 1, 3) := by decide +kernel
theorem dX7_sheet_109 : decode cX7_sheet 109 = .ok (.goto (-23), 3) := by decide +kernel
theorem dX7_sheet_112 : decode cX7_sheet 112 = .ok (.aload_n 0, 1) := by decide +kernel
theorem dX7_sheet_113 : decode cX7_sheet 113 = .ok (.getfield 34, 3) := by decide +kernel
theorem dX7_sheet_116 : decode cX7_sheet 116 = .ok (.iload_n 1, 1) := by decide +kernel
theorem dX7_sheet_117 : decode cX7_sheet 117 = .ok (.iaload, 1) := by decide +kernel
theorem dX7_sheet_118 : decode cX7_sheet 118 = .ok (.ireturn, 1) := by decide +kernel
theorem dX7_narrowed_0 : decode cX7_narrowed 0 = .ok (.iload_n 0, 1) := by decide +kernel
theorem dX7_narrowed_1 : decode cX7_narrowed 1 = .ok (.bipush 8, 2) := by decide +kernel
theorem dX7_narrowed_3 : decode cX7_narrowed 3 = .ok (.if_icmp .ne 8, 3) := by decide +kernel
theorem dX7_narrowed_6 : decode cX7_narrowed 6 = .ok (.iload_n 1, 1) := by decide +kernel
theorem dX7_narrowed_7 : decode cX7_narrowed 7 = .ok (.i2b, 1) := by decide +kernel
theorem dX7_narrowed_8 : decode cX7_narrowed 8 = .ok (.goto 15, 3) := by decide +kernel
theorem dX7_narrowed_11 : decode cX7_narrowed 11 = .ok (.iload_n 0, 1) := by decide +kernel
theorem dX7_narrowed_12 : decode cX7_narrowed 12 = .ok (.bipush 16, 2) := by decide +kernel
theorem dX7_narrowed_14 : decode cX7_narrowed 14 = .ok (.if_icmp .ne 8, 3) := by decide +kernel
theorem dX7_narrowed_17 : decode cX7_narrowed 17 = .ok (.iload_n 1, 1) := by decide +kernel
theorem dX7_narrowed_18 : decode cX7_narrowed 18 = .ok (.i2s, 1) := by decide +kernel
theorem dX7_narrowed_19 : decode cX7_narrowed 19 = .ok (.goto 4, 3) := by decide +kernel
theorem dX7_narrowed_22 : decode cX7_narrowed 22 = .ok (.iload_n 1, 1) := by decide +kernel
theorem dX7_narrowed_23 : decode cX7_narrowed 23 = .ok (.ireturn, 1) := by decide +kernel
theorem dX7_wrong_0 : decode cX7_wrong 0 = .ok (.iload_n 1, 1) := by decide +kernel
theorem dX7_wrong_1 : decode cX7_wrong 1 = .ok (.invokestatic 344, 3) := by decide +kernel
theorem dX7_wrong_4 : decode cX7_wrong 4 = .ok (.ifCond .ne 8, 3) := by decide +kernel
theorem dX7_wrong_7 : decode cX7_wrong 7 = .ok (.ldc 43, 2) := by decide +kernel
theorem dX7_wrong_9 : decode cX7_wrong 9 = .ok (.goto 19, 3) := by decide +kernel
theorem dX7_wrong_12 : decode cX7_wrong 12 = .ok (.aload_n 0, 1) := by decide +kernel
theorem dX7_wrong_13 : decode cX7_wrong 13 = .ok (.getfield 31, 3) := by decide +kernel
theorem dX7_wrong_16 : decode cX7_wrong 16 = .ok (.iload_n 1, 1) := by decide +kernel
theorem dX7_wrong_17 : decode cX7_wrong 17 = .ok (.iaload, 1) := by decide +kernel
theorem dX7_wrong_18 : decode cX7_wrong 18 = .ok (.ifCond .ne 9, 3) := by decide +kernel
theorem dX7_wrong_21 : decode cX7_wrong 21 = .ok (.ldc_w 342, 3) := by decide +kernel
theorem dX7_wrong_24 : decode cX7_wrong 24 = .ok (.goto 4, 3) := by decide +kernel
theorem dX7_wrong_27 : decode cX7_wrong 27 = .ok (.iconst 0, 1) := by decide +kernel
theorem dX7_wrong_28 : decode cX7_wrong 28 = .ok (.ireturn, 1) := by decide +kernel
theorem dX7_write_0 : decode cX7_write 0 = .ok (.aload_n 0, 1) := by decide +kernel
theorem dX7_write_1 : decode cX7_write 1 = .ok (.iload_n 1, 1) := by decide +kernel
theorem dX7_write_2 : decode cX7_write 2 = .ok (.invokevirtual 348, 3) := by decide +kernel
theorem dX7_write_5 : decode cX7_write 5 = .ok (.istore 4, 2) := by decide +kernel
theorem dX7_write_7 : decode cX7_write 7 = .ok (.iload 4, 2) := by decide +kernel
theorem dX7_write_9 : decode cX7_write 9 = .ok (.ifCond .eq 10, 3) := by decide +kernel
theorem dX7_write_12 : decode cX7_write 12 = .ok (.aload_n 0, 1) := by decide +kernel
theorem dX7_write_13 : decode cX7_write 13 = .ok (.iload 4, 2) := by decide +kernel
theorem dX7_write_15 : decode cX7_write 15 = .ok (.invokevirtual 59, 3) := by decide +kernel
theorem dX7_write_18 : decode cX7_write 18 = .ok (.ireturn, 1) := by decide +kernel
theorem dX7_write_19 : decode cX7_write 19 = .ok (.iload_n 2, 1) := by decide +kernel
theorem dX7_write_20 : decode cX7_write 20 = .ok (.i2l, 1) := by decide +kernel
theorem dX7_write_21 : decode cX7_write 21 = .ok (.lconst 0, 1) := by decide +kernel
theorem dX7_write_22 : decode cX7_write 22 = .ok (.aload_n 0, 1) := by decide +kernel
theorem dX7_write_23 : decode cX7_write 23 = .ok (.getfield 34, 3) := by decide +kernel
theorem dX7_write_26 : decode cX7_write 26 = .ok (.iload_n 1, 1) := by decide +kernel
theorem dX7_write_27 : decode cX7_write 27 = .ok (.iaload, 1) := by decide +kernel
theorem dX7_write_28 : decode cX7_write 28 = .ok (.iconst 1, 1) := by decide +kernel
theorem dX7_write_29 : decode cX7_write 29 = .ok (.isub, 1) := by decide +kernel
theorem dX7_write_30 : decode cX7_write 30 = .ok (.i2l, 1) := by decide +kernel
theorem dX7_write_31 : decode cX7_write 31 = .ok (.invokestatic 46, 3) := by decide +kernel
theorem dX7_write_34 : decode cX7_write 34 = .ok (.ifCond .ne 10, 3) := by decide +kernel
theorem dX7_write_37 : decode cX7_write 37 = .ok (.aload_n 0, 1) := by decide +kernel
theorem dX7_write_38 : decode cX7_write 38 = .ok (.ldc 43, 2) := by decide +kernel
theorem dX7_write_40 : decode cX7_write 40 = .ok (.invokevirtual 59, 3) := by decide +kernel
theorem dX7_write_43 : decode cX7_write 43 = .ok (.ireturn, 1) := by decide +kernel
theorem dX7_write_44 : decode cX7_write 44 = .ok (.aload_n 0, 1) := by decide +kernel
theorem dX7_write_45 : decode cX7_write 45 = .ok (.getfield 37, 3) := by decide +kernel
theorem dX7_write_48 : decode cX7_write 48 = .ok (.bipush 40, 2) := by decide +kernel
theorem dX7_write_50 : decode cX7_write 50 = .ok (.iload_n 1, 1) := by decide +kernel
theorem dX7_write_51 : decode cX7_write 51 = .ok (.imul, 1) := by decide +kernel
theorem dX7_write_52 : decode cX7_write 52 = .ok (.iload_n 2, 1) := by decide +kernel
theorem dX7_write_53 : decode cX7_write 53 = .ok (.iadd, 1) := by decide +kernel
theorem dX7_write_54 : decode cX7_write 54 = .ok (.aload_n 0, 1) := by decide +kernel
theorem dX7_write_55 : decode cX7_write 55 = .ok (.getfield 31, 3) := by decide +kernel
theorem dX7_write_58 : decode cX7_write 58 = .ok (.iload_n 1, 1) := by decide +kernel
theorem dX7_write_59 : decode cX7_write 59 = .ok (.iaload, 1) := by decide +kernel
theorem dX7_write_60 : decode cX7_write 60 = .ok (.iload_n 3, 1) := by decide +kernel
theorem dX7_write_61 : decode cX7_write 61 = .ok (.invokestatic 351, 3) := by decide +kernel
theorem dX7_write_64 : decode cX7_write 64 = .ok (.iastore, 1) := by decide +kernel
theorem dX7_write_65 : decode cX7_write 65 = .ok (.iconst 1, 1) := by decide +kernel
theorem dX7_write_66 : decode cX7_write 66 = .ok (.ireturn, 1) := by decide +kernel
theorem dX7_copy_0 : decode cX7_copy 0 = .ok (.iload_n 1, 1) := by decide +kernel
theorem dX7_copy_1 : decode cX7_copy 1 = .ok (.invokestatic 344, 3) := by decide +kernel
theorem dX7_copy_4 : decode cX7_copy 4 = .ok (.ifCond .eq 10, 3) := by decide +kernel
theorem dX7_copy_7 : decode cX7_copy 7 = .ok (.iload_n 3, 1) := by decide +kernel
theorem dX7_copy_8 : decode cX7_copy 8 = .ok (.invokestatic 344, 3) := by decide +kernel
theorem dX7_copy_11 : decode cX7_copy 11 = .ok (.ifCond .ne 10, 3) := by decide +kernel
theorem dX7_copy_14 : decode cX7_copy 14 = .ok (.aload_n 0, 1) := by decide +kernel
theorem dX7_copy_15 : decode cX7_copy 15 = .ok (.ldc 43, 2) := by decide +kernel
theorem dX7_copy_17 : decode cX7_copy 17 = .ok (.invokevirtual 59, 3) := by decide +kernel
theorem dX7_copy_20 : decode cX7_copy 20 = .ok (.ireturn, 1) := by decide +kernel
theorem dX7_copy_21 : decode cX7_copy 21 = .ok (.aload_n 0, 1) := by decide +kernel
theorem dX7_copy_22 : decode cX7_copy 22 = .ok (.getfield 31, 3) := by decide +kernel
theorem dX7_copy_25 : decode cX7_copy 25 = .ok (.iload_n 1, 1) := by decide +kernel
theorem dX7_copy_26 : decode cX7_copy 26 = .ok (.iaload, 1) := by decide +kernel
theorem dX7_copy_27 : decode cX7_copy 27 = .ok (.ifCond .eq 12, 3) := by decide +kernel
theorem dX7_copy_30 : decode cX7_copy 30 = .ok (.aload_n 0, 1) := by decide +kernel
theorem dX7_copy_31 : decode cX7_copy 31 = .ok (.getfield 31, 3) := by decide +kernel
theorem dX7_copy_34 : decode cX7_copy 34 = .ok (.iload_n 3, 1) := by decide +kernel
theorem dX7_copy_35 : decode cX7_copy 35 = .ok (.iaload, 1) := by decide +kernel
theorem dX7_copy_36 : decode cX7_copy 36 = .ok (.ifCond .ne 11, 3) := by decide +kernel
theorem dX7_copy_39 : decode cX7_copy 39 = .ok (.aload_n 0, 1) := by decide +kernel
theorem dX7_copy_40 : decode cX7_copy 40 = .ok (.ldc_w 342, 3) := by decide +kernel
theorem dX7_copy_43 : decode cX7_copy 43 = .ok (.invokevirtual 59, 3) := by decide +kernel
theorem dX7_copy_46 : decode cX7_copy 46 = .ok (.ireturn, 1) := by decide +kernel
theorem dX7_copy_47 : decode cX7_copy 47 = .ok (.aload_n 0, 1) := by decide +kernel
theorem dX7_copy_48 : decode cX7_copy 48 = .ok (.getfield 31, 3) := by decide +kernel
theorem dX7_copy_51 : decode cX7_copy 51 = .ok (.iload_n 1, 1) := by decide +kernel
theorem dX7_copy_52 : decode cX7_copy 52 = .ok (.iaload, 1) := by decide +kernel
theorem dX7_copy_53 : decode cX7_copy 53 = .ok (.aload_n 0, 1) := by decide +kernel
theorem dX7_copy_54 : decode cX7_copy 54 = .ok (.getfield 31, 3) := by decide +kernel
theorem dX7_copy_57 : decode cX7_copy 57 = .ok (.iload_n 3, 1) := by decide +kernel
theorem dX7_copy_58 : decode cX7_copy 58 = .ok (.iaload, 1) := by decide +kernel
theorem dX7_copy_59 : decode cX7_copy 59 = .ok (.if_icmp .eq 11, 3) := by decide +kernel
theorem dX7_copy_62 : decode cX7_copy 62 = .ok (.aload_n 0, 1) := by decide +kernel
theorem dX7_copy_63 : decode cX7_copy 63 = .ok (.ldc_w 343, 3) := by decide +kernel
theorem dX7_copy_66 : decode cX7_copy 66 = .ok (.invokevirtual 59, 3) := by decide +kernel
theorem dX7_copy_69 : decode cX7_copy 69 = .ok (.ireturn, 1) := by decide +kernel
theorem dX7_copy_70 : decode cX7_copy 70 = .ok (.iload_n 2, 1) := by decide +kernel
theorem dX7_copy_71 : decode cX7_copy 71 = .ok (.ifCond .lt 40, 3) := by decide +kernel
theorem dX7_copy_74 : decode cX7_copy 74 = .ok (.iload 4, 2) := by decide +kernel
theorem dX7_copy_76 : decode cX7_copy 76 = .ok (.ifCond .lt 35, 3) := by decide +kernel
theorem dX7_copy_79 : decode cX7_copy 79 = .ok (.iload 5, 2) := by decide +kernel
theorem dX7_copy_81 : decode cX7_copy 81 = .ok (.ifCond .lt 30, 3) := by decide +kernel
theorem dX7_copy_84 : decode cX7_copy 84 = .ok (.iload 5, 2) := by decide +kernel
theorem dX7_copy_86 : decode cX7_copy 86 = .ok (.aload_n 0, 1) := by decide +kernel
theorem dX7_copy_87 : decode cX7_copy 87 = .ok (.getfield 34, 3) := by decide +kernel
theorem dX7_copy_90 : decode cX7_copy 90 = .ok (.iload_n 1, 1) := by decide +kernel
theorem dX7_copy_91 : decode cX7_copy 91 = .ok (.iaload, 1) := by decide +kernel
theorem dX7_copy_92 : decode cX7_copy 92 = .ok (.iload_n 2, 1) := by decide +kernel
theorem dX7_copy_93 : decode cX7_copy 93 = .ok (.isub, 1) := by decide +kernel
theorem dX7_copy_94 : decode cX7_copy 94 = .ok (.if_icmp .gt 17, 3) := by decide +kernel
theorem dX7_copy_97 : decode cX7_copy 97 = .ok (.iload 5, 2) := by decide +kernel
theorem dX7_copy_99 : decode cX7_copy 99 = .ok (.aload_n 0, 1) := by decide +kernel
theorem dX7_copy_100 : decode cX7_copy 100 = .ok (.getfield 34, 3) := by decide +kernel
theorem dX7_copy_103 : decode cX7_copy 103 = .ok (.iload_n 3, 1) := by decide +kernel
theorem dX7_copy_104 : decode cX7_copy 104 = .ok (.iaload, 1) := by decide +kernel
theorem dX7_copy_105 : decode cX7_copy 105 = .ok (.iload 4, 2) := by decide +kernel
theorem dX7_copy_107 : decode cX7_copy 107 = .ok (.isub, 1) := by decide +kernel
theorem dX7_copy_108 : decode cX7_copy 108 = .ok (.if_icmp .le 10, 3) := by decide +kernel
theorem dX7_copy_111 : decode cX7_copy 111 = .ok (.aload_n 0, 1) := by decide +kernel
theorem dX7_copy_112 : decode cX7_copy 112 = .ok (.ldc 43, 2) := by decide +kernel
theorem dX7_copy_114 : decode cX7_copy 114 = .ok (.invokevirtual 59, 3) := by decide +kernel
theorem dX7_copy_117 : decode cX7_copy 117 = .ok (.ireturn, 1) := by decide +kernel
theorem dX7_copy_118 : decode cX7_copy 118 = .ok (.iconst 0, 1) := by decide +kernel
theorem dX7_copy_119 : decode cX7_copy 119 = .ok (.istore 6, 2) := by decide +kernel
theorem dX7_copy_121 : decode cX7_copy 121 = .ok (.iload 6, 2) := by decide +kernel
theorem dX7_copy_123 : decode cX7_copy 123 = .ok (.iload 5, 2) := by decide +kernel
theorem dX7_copy_125 : decode cX7_copy 125 = .ok (.if_icmp .ge 30, 3) := by decide +kernel
theorem dX7_copy_128 : decode cX7_copy 128 = .ok (.aload_n 0, 1) := by decide +kernel
theorem dX7_copy_129 : decode cX7_copy 129 = .ok (.getfield 40, 3) := by decide +kernel
theorem dX7_copy_132 : decode cX7_copy 132 = .ok (.iload 6, 2) := by decide +kernel
theorem dX7_copy_134 : decode cX7_copy 134 = .ok (.aload_n 0, 1) := by decide +kernel
theorem dX7_copy_135 : decode cX7_copy 135 = .ok (.getfield 37, 3) := by decide +kernel
theorem dX7_copy_138 : decode cX7_copy 138 = .ok (.bipush 40, 2) := by decide +kernel
theorem dX7_copy_140 : decode cX7_copy 140 = .ok (.iload_n 1, 1) := by decide +kernel
theorem dX7_copy_141 : decode cX7_copy 141 = .ok (.imul, 1) := by decide +kernel
theorem dX7_copy_142 : decode cX7_copy 142 = .ok (.iload_n 2, 1) := by decide +kernel
theorem dX7_copy_143 : decode cX7_copy 143 = .ok (.iadd, 1) := by decide +kernel
theorem dX7_copy_144 : decode cX7_copy 144 = .ok (.iload 6, 2) := by decide +kernel
theorem dX7_copy_146 : decode cX7_copy 146 = .ok (.iadd, 1) := by decide +kernel
theorem dX7_copy_147 : decode cX7_copy 147 = .ok (.iaload, 1) := by decide +kernel
theorem dX7_copy_148 : decode cX7_copy 148 = .ok (.iastore, 1) := by decide +kernel
theorem dX7_copy_149 : decode cX7_copy 149 = .ok (.iinc 6 1, 3) := by decide +kernel
theorem dX7_copy_152 : decode cX7_copy 152 = .ok (.goto (-31), 3) := by decide +kernel
theorem dX7_copy_155 : decode cX7_copy 155 = .ok (.iconst 0, 1) := by decide +kernel
theorem dX7_copy_156 : decode cX7_copy 156 = .ok (.istore 6, 2) := by decide +kernel
theorem dX7_copy_158 : decode cX7_copy 158 = .ok (.iload 6, 2) := by decide +kernel
theorem dX7_copy_160 : decode cX7_copy 160 = .ok (.iload 5, 2) := by decide +kernel
theorem dX7_copy_162 : decode cX7_copy 162 = .ok (.if_icmp .ge 31, 3) := by decide +kernel
theorem dX7_copy_165 : decode cX7_copy 165 = .ok (.aload_n 0, 1) := by decide +kernel
theorem dX7_copy_166 : decode cX7_copy 166 = .ok (.getfield 37, 3) := by decide +kernel
theorem dX7_copy_169 : decode cX7_copy 169 = .ok (.bipush 40, 2) := by decide +kernel
theorem dX7_copy_171 : decode cX7_copy 171 = .ok (.iload_n 3, 1) := by decide +kernel
theorem dX7_copy_172 : decode cX7_copy 172 = .ok (.imul, 1) := by decide +kernel
theorem dX7_copy_173 : decode cX7_copy 173 = .ok (.iload 4, 2) := by decide +kernel
theorem dX7_copy_175 : decode cX7_copy 175 = .ok (.iadd, 1) := by decide +kernel
theorem dX7_copy_176 : decode cX7_copy 176 = .ok (.iload 6, 2) := by decide +kernel
theorem dX7_copy_178 : decode cX7_copy 178 = .ok (.iadd, 1) := by decide +kernel
theorem dX7_copy_179 : decode cX7_copy 179 = .ok (.aload_n 0, 1) := by decide +kernel
theorem dX7_copy_180 : decode cX7_copy 180 = .ok (.getfield 40, 3) := by decide +kernel
theorem dX7_copy_183 : decode cX7_copy 183 = .ok (.iload 6, 2) := by decide +kernel
theorem dX7_copy_185 : decode cX7_copy 185 = .ok (.iaload, 1) := by decide +kernel
theorem dX7_copy_186 : decode cX7_copy 186 = .ok (.iastore, 1) := by decide +kernel
theorem dX7_copy_187 : decode cX7_copy 187 = .ok (.iinc 6 1, 3) := by decide +kernel
theorem dX7_copy_190 : decode cX7_copy 190 = .ok (.goto (-32), 3) := by decide +kernel
theorem dX7_copy_193 : decode cX7_copy 193 = .ok (.iload 5, 2) := by decide +kernel
theorem dX7_copy_195 : decode cX7_copy 195 = .ok (.ireturn, 1) := by decide +kernel
theorem dX7_load_0 : decode cX7_load 0 = .ok (.aload_n 0, 1) := by decide +kernel
theorem dX7_load_1 : decode cX7_load 1 = .ok (.iload_n 1, 1) := by decide +kernel
theorem dX7_load_2 : decode cX7_load 2 = .ok (.invokevirtual 348, 3) := by decide +kernel
theorem dX7_load_5 : decode cX7_load 5 = .ok (.istore_n 3, 1) := by decide +kernel
theorem dX7_load_6 : decode cX7_load 6 = .ok (.iload_n 3, 1) := by decide +kernel
theorem dX7_load_7 : decode cX7_load 7 = .ok (.ifCond .eq 9, 3) := by decide +kernel
theorem dX7_load_10 : decode cX7_load 10 = .ok (.aload_n 0, 1) := by decide +kernel
theorem dX7_load_11 : decode cX7_load 11 = .ok (.iload_n 3, 1) := by decide +kernel
theorem dX7_load_12 : decode cX7_load 12 = .ok (.invokevirtual 59, 3) := by decide +kernel
theorem dX7_load_15 : decode cX7_load 15 = .ok (.ireturn, 1) := by decide +kernel
theorem dX7_load_16 : decode cX7_load 16 = .ok (.iload_n 2, 1) := by decide +kernel
theorem dX7_load_17 : decode cX7_load 17 = .ok (.invokestatic 51, 3) := by decide +kernel
theorem dX7_load_20 : decode cX7_load 20 = .ok (.ifCond .ne 10, 3) := by decide +kernel
theorem dX7_load_23 : decode cX7_load 23 = .ok (.aload_n 0, 1) := by decide +kernel
theorem dX7_load_24 : decode cX7_load 24 = .ok (.ldc 43, 2) := by decide +kernel
theorem dX7_load_26 : decode cX7_load 26 = .ok (.invokevirtual 59, 3) := by decide +kernel
theorem dX7_load_29 : decode cX7_load 29 = .ok (.ireturn, 1) := by decide +kernel
theorem dX7_load_30 : decode cX7_load 30 = .ok (.iconst 0, 1) := by decide +kernel
theorem dX7_load_31 : decode cX7_load 31 = .ok (.istore 4, 2) := by decide +kernel
theorem dX7_load_33 : decode cX7_load 33 = .ok (.iload 4, 2) := by decide +kernel
theorem dX7_load_35 : decode cX7_load 35 = .ok (.aload_n 0, 1) := by decide +kernel
theorem dX7_load_36 : decode cX7_load 36 = .ok (.getfield 34, 3) := by decide +kernel
theorem dX7_load_39 : decode cX7_load 39 = .ok (.iload_n 1, 1) := by decide +kernel
theorem dX7_load_40 : decode cX7_load 40 = .ok (.iaload, 1) := by decide +kernel
theorem dX7_load_41 : decode cX7_load 41 = .ok (.if_icmp .ge 66, 3) := by decide +kernel
theorem dX7_load_44 : decode cX7_load 44 = .ok (.iload_n 2, 1) := by decide +kernel
theorem dX7_load_45 : decode cX7_load 45 = .ok (.iload 4, 2) := by decide +kernel
theorem dX7_load_47 : decode cX7_load 47 = .ok (.iadd, 1) := by decide +kernel
theorem dX7_load_48 : decode cX7_load 48 = .ok (.bipush 31, 2) := by decide +kernel
theorem dX7_load_50 : decode cX7_load 50 = .ok (.if_icmp .ge 57, 3) := by decide +kernel
theorem dX7_load_53 : decode cX7_load 53 = .ok (.aload_n 0, 1) := by decide +kernel
theorem dX7_load_54 : decode cX7_load 54 = .ok (.getfield 37, 3) := by decide +kernel
theorem dX7_load_57 : decode cX7_load 57 = .ok (.bipush 40, 2) := by decide +kernel
theorem dX7_load_59 : decode cX7_load 59 = .ok (.iload_n 1, 1) := by decide +kernel
theorem dX7_load_60 : decode cX7_load 60 = .ok (.imul, 1) := by decide +kernel
theorem dX7_load_61 : decode cX7_load 61 = .ok (.iload 4, 2) := by decide +kernel
theorem dX7_load_63 : decode cX7_load 63 = .ok (.iadd, 1) := by decide +kernel
theorem dX7_load_64 : decode cX7_load 64 = .ok (.iaload, 1) := by decide +kernel
theorem dX7_load_65 : decode cX7_load 65 = .ok (.i2l, 1) := by decide +kernel
theorem dX7_load_66 : decode cX7_load 66 = .ok (.ldc2_w 55, 3) := by decide +kernel
theorem dX7_load_69 : decode cX7_load 69 = .ok (.ldc2_w 57, 3) := by decide +kernel
theorem dX7_load_72 : decode cX7_load 72 = .ok (.invokestatic 46, 3) := by decide +kernel
theorem dX7_load_75 : decode cX7_load 75 = .ok (.ifCond .eq 32, 3) := by decide +kernel
theorem dX7_load_78 : decode cX7_load 78 = .ok (.aload_n 0, 1) := by decide +kernel
theorem dX7_load_79 : decode cX7_load 79 = .ok (.getfield 7, 3) := by decide +kernel
theorem dX7_load_82 : decode cX7_load 82 = .ok (.iconst 5, 1) := by decide +kernel
theorem dX7_load_83 : decode cX7_load 83 = .ok (.iload_n 2, 1) := by decide +kernel
theorem dX7_load_84 : decode cX7_load 84 = .ok (.iadd, 1) := by decide +kernel
theorem dX7_load_85 : decode cX7_load 85 = .ok (.iload 4, 2) := by decide +kernel
theorem dX7_load_87 : decode cX7_load 87 = .ok (.iadd, 1) := by decide +kernel
theorem dX7_load_88 : decode cX7_load 88 = .ok (.aload_n 0, 1) := by decide +kernel
theorem dX7_load_89 : decode cX7_load 89 = .ok (.getfield 37, 3) := by decide +kernel
theorem dX7_load_92 : decode cX7_load 92 = .ok (.bipush 40, 2) := by decide +kernel
theorem dX7_load_94 : decode cX7_load 94 = .ok (.iload_n 1, 1) := by decide +kernel
theorem dX7_load_95 : decode cX7_load 95 = .ok (.imul, 1) := by decide +kernel
theorem dX7_load_96 : decode cX7_load 96 = .ok (.iload 4, 2) := by decide +kernel
theorem dX7_load_98 : decode cX7_load 98 = .ok (.iadd, 1) := by decide +kernel
theorem dX7_load_99 : decode cX7_load 99 = .ok (.iaload, 1) := by decide +kernel
theorem dX7_load_100 : decode cX7_load 100 = .ok (.iastore, 1) := by decide +kernel
theorem dX7_load_101 : decode cX7_load 101 = .ok (.iinc 4 1, 3) := by decide +kernel
theorem dX7_load_104 : decode cX7_load 104 = .ok (.goto (-71), 3) := by decide +kernel
theorem dX7_load_107 : decode cX7_load 107 = .ok (.iload 4, 2) := by decide +kernel
theorem dX7_load_109 : decode cX7_load 109 = .ok (.ireturn, 1) := by decide +kernel
theorem dX7_judge_0 : decode cX7_judge 0 = .ok (.aload_n 0, 1) := by decide +kernel
theorem dX7_judge_1 : decode cX7_judge 1 = .ok (.iload_n 1, 1) := by decide +kernel
theorem dX7_judge_2 : decode cX7_judge 2 = .ok (.invokevirtual 348, 3) := by decide +kernel
theorem dX7_judge_5 : decode cX7_judge 5 = .ok (.istore_n 3, 1) := by decide +kernel
theorem dX7_judge_6 : decode cX7_judge 6 = .ok (.iload_n 3, 1) := by decide +kernel
theorem dX7_judge_7 : decode cX7_judge 7 = .ok (.ifCond .eq 9, 3) := by decide +kernel
theorem dX7_judge_10 : decode cX7_judge 10 = .ok (.aload_n 0, 1) := by decide +kernel
theorem dX7_judge_11 : decode cX7_judge 11 = .ok (.iload_n 3, 1) := by decide +kernel
theorem dX7_judge_12 : decode cX7_judge 12 = .ok (.invokevirtual 59, 3) := by decide +kernel
theorem dX7_judge_15 : decode cX7_judge 15 = .ok (.ireturn, 1) := by decide +kernel
theorem dX7_judge_16 : decode cX7_judge 16 = .ok (.aload_n 0, 1) := by decide +kernel
theorem dX7_judge_17 : decode cX7_judge 17 = .ok (.iload_n 2, 1) := by decide +kernel
theorem dX7_judge_18 : decode cX7_judge 18 = .ok (.invokevirtual 92, 3) := by decide +kernel
theorem dX7_judge_21 : decode cX7_judge 21 = .ok (.ifCond .ne 10, 3) := by decide +kernel
theorem dX7_judge_24 : decode cX7_judge 24 = .ok (.aload_n 0, 1) := by decide +kernel
theorem dX7_judge_25 : decode cX7_judge 25 = .ok (.ldc 43, 2) := by decide +kernel
theorem dX7_judge_27 : decode cX7_judge 27 = .ok (.invokevirtual 59, 3) := by decide +kernel
theorem dX7_judge_30 : decode cX7_judge 30 = .ok (.ireturn, 1) := by decide +kernel
theorem dX7_judge_31 : decode cX7_judge 31 = .ok (.aload_n 0, 1) := by decide +kernel
theorem dX7_judge_32 : decode cX7_judge 32 = .ok (.aload_n 0, 1) := by decide +kernel
theorem dX7_judge_33 : decode cX7_judge 33 = .ok (.getfield 34, 3) := by decide +kernel
theorem dX7_judge_36 : decode cX7_judge 36 = .ok (.iload_n 1, 1) := by decide +kernel
theorem dX7_judge_37 : decode cX7_judge 37 = .ok (.iaload, 1) := by decide +kernel
theorem dX7_judge_38 : decode cX7_judge 38 = .ok (.invokevirtual 132, 3) := by decide +kernel
theorem dX7_judge_41 : decode cX7_judge 41 = .ok (.ifCond .eq 10, 3) := by decide +kernel
theorem dX7_judge_44 : decode cX7_judge 44 = .ok (.aload_n 0, 1) := by decide +kernel
theorem dX7_judge_45 : decode cX7_judge 45 = .ok (.ldc 109, 2) := by decide +kernel
theorem dX7_judge_47 : decode cX7_judge 47 = .ok (.invokevirtual 59, 3) := by decide +kernel
theorem dX7_judge_50 : decode cX7_judge 50 = .ok (.ireturn, 1) := by decide +kernel
theorem dX7_judge_51 : decode cX7_judge 51 = .ok (.aload_n 0, 1) := by decide +kernel
theorem dX7_judge_52 : decode cX7_judge 52 = .ok (.invokevirtual 148, 3) := by decide +kernel
theorem dX7_judge_55 : decode cX7_judge 55 = .ok (.iconst 0, 1) := by decide +kernel
theorem dX7_judge_56 : decode cX7_judge 56 = .ok (.istore 4, 2) := by decide +kernel
theorem dX7_judge_58 : decode cX7_judge 58 = .ok (.iconst 1, 1) := by decide +kernel
theorem dX7_judge_59 : decode cX7_judge 59 = .ok (.istore 5, 2) := by decide +kernel
theorem dX7_judge_61 : decode cX7_judge 61 = .ok (.iload 5, 2) := by decide +kernel
theorem dX7_judge_63 : decode cX7_judge 63 = .ok (.ifCond .eq 64, 3) := by decide +kernel
theorem dX7_judge_66 : decode cX7_judge 66 = .ok (.iload 4, 2) := by decide +kernel
theorem dX7_judge_68 : decode cX7_judge 68 = .ok (.aload_n 0, 1) := by decide +kernel
theorem dX7_judge_69 : decode cX7_judge 69 = .ok (.getfield 34, 3) := by decide +kernel
theorem dX7_judge_72 : decode cX7_judge 72 = .ok (.iload_n 1, 1) := by decide +kernel
theorem dX7_judge_73 : decode cX7_judge 73 = .ok (.iaload, 1) := by decide +kernel
theorem dX7_judge_74 : decode cX7_judge 74 = .ok (.if_icmp .ge 53, 3) := by decide +kernel
theorem dX7_judge_77 : decode cX7_judge 77 = .ok (.aload_n 0, 1) := by decide +kernel
theorem dX7_judge_78 : decode cX7_judge 78 = .ok (.invokevirtual 135, 3) := by decide +kernel
theorem dX7_judge_81 : decode cX7_judge 81 = .ok (.aload_n 0, 1) := by decide +kernel
theorem dX7_judge_82 : decode cX7_judge 82 = .ok (.getfield 37, 3) := by decide +kernel
theorem dX7_judge_85 : decode cX7_judge 85 = .ok (.bipush 40, 2) := by decide +kernel
theorem dX7_judge_87 : decode cX7_judge 87 = .ok (.iload_n 1, 1) := by decide +kernel
theorem dX7_judge_88 : decode cX7_judge 88 = .ok (.imul, 1) := by decide +kernel
theorem dX7_judge_89 : decode cX7_judge 89 = .ok (.iload 4, 2) := by decide +kernel
theorem dX7_judge_91 : decode cX7_judge 91 = .ok (.iadd, 1) := by decide +kernel
theorem dX7_judge_92 : decode cX7_judge 92 = .ok (.iaload, 1) := by decide +kernel
theorem dX7_judge_93 : decode cX7_judge 93 = .ok (.aload_n 0, 1) := by decide +kernel
theorem dX7_judge_94 : decode cX7_judge 94 = .ok (.iload_n 2, 1) := by decide +kernel
theorem dX7_judge_95 : decode cX7_judge 95 = .ok (.iconst 4, 1) := by decide +kernel
theorem dX7_judge_96 : decode cX7_judge 96 = .ok (.invokevirtual 89, 3) := by decide +kernel
theorem dX7_judge_99 : decode cX7_judge 99 = .ok (.if_icmp .ne 7, 3) := by decide +kernel
theorem dX7_judge_102 : decode cX7_judge 102 = .ok (.iconst 1, 1) := by decide +kernel
theorem dX7_judge_103 : decode cX7_judge 103 = .ok (.goto 4, 3) := by decide +kernel
theorem dX7_judge_106 : decode cX7_judge 106 = .ok (.iconst 0, 1) := by decide +kernel
theorem dX7_judge_107 : decode cX7_judge 107 = .ok (.istore 5, 2) := by decide +kernel
theorem dX7_judge_109 : decode cX7_judge 109 = .ok (.iload 4, 2) := by decide +kernel
theorem dX7_judge_111 : decode cX7_judge 111 = .ok (.iload 5, 2) := by decide +kernel
theorem dX7_judge_113 : decode cX7_judge 113 = .ok (.ifCond .eq 7, 3) := by decide +kernel
theorem dX7_judge_116 : decode cX7_judge 116 = .ok (.iconst 1, 1) := by decide +kernel
theorem dX7_judge_117 : decode cX7_judge 117 = .ok (.goto 4, 3) := by decide +kernel
theorem dX7_judge_120 : decode cX7_judge 120 = .ok (.iconst 0, 1) := by decide +kernel
theorem dX7_judge_121 : decode cX7_judge 121 = .ok (.iadd, 1) := by decide +kernel
theorem dX7_judge_122 : decode cX7_judge 122 = .ok (.istore 4, 2) := by decide +kernel
theorem dX7_judge_124 : decode cX7_judge 124 = .ok (.goto (-63), 3) := by decide +kernel
theorem dX7_judge_127 : decode cX7_judge 127 = .ok (.aload_n 0, 1) := by decide +kernel
theorem dX7_judge_128 : decode cX7_judge 128 = .ok (.invokevirtual 154, 3) := by decide +kernel
theorem dX7_judge_131 : decode cX7_judge 131 = .ok (.iload 5, 2) := by decide +kernel
theorem dX7_judge_133 : decode cX7_judge 133 = .ok (.ifCond .eq 7, 3) := by decide +kernel
theorem dX7_judge_136 : decode cX7_judge 136 = .ok (.iconst 0, 1) := by decide +kernel
theorem dX7_judge_137 : decode cX7_judge 137 = .ok (.goto 7, 3) := by decide +kernel
theorem dX7_judge_140 : decode cX7_judge 140 = .ok (.iconst 1, 1) := by decide +kernel
theorem dX7_judge_141 : decode cX7_judge 141 = .ok (.iload 4, 2) := by decide +kernel
theorem dX7_judge_143 : decode cX7_judge 143 = .ok (.iadd, 1) := by decide +kernel
theorem dX7_judge_144 : decode cX7_judge 144 = .ok (.ireturn, 1) := by decide +kernel
theorem dX7_image_0 : decode cX7_image 0 = .ok (.iconst 0, 1) := by decide +kernel
theorem dX7_image_1 : decode cX7_image 1 = .ok (.istore_n 1, 1) := by decide +kernel
theorem dX7_image_2 : decode cX7_image 2 = .ok (.iload_n 1, 1) := by decide +kernel
theorem dX7_image_3 : decode cX7_image 3 = .ok (.sipush 167, 3) := by decide +kernel
theorem dX7_image_6 : decode cX7_image 6 = .ok (.if_icmp .ge 21, 3) := by decide +kernel
theorem dX7_image_9 : decode cX7_image 9 = .ok (.aload_n 0, 1) := by decide +kernel
theorem dX7_image_10 : decode cX7_image 10 = .ok (.getfield 13, 3) := by decide +kernel
theorem dX7_image_13 : decode cX7_image 13 = .ok (.iload_n 1, 1) := by decide +kernel
theorem dX7_image_14 : decode cX7_image 14 = .ok (.aload_n 0, 1) := by decide +kernel
theorem dX7_image_15 : decode cX7_image 15 = .ok (.getfield 7, 3) := by decide +kernel
theorem dX7_image_18 : decode cX7_image 18 = .ok (.iload_n 1, 1) := by decide +kernel
theorem dX7_image_19 : decode cX7_image 19 = .ok (.iaload, 1) := by decide +kernel
theorem dX7_image_20 : decode cX7_image 20 = .ok (.iastore, 1) := by decide +kernel
theorem dX7_image_21 : decode cX7_image 21 = .ok (.iinc 1 1, 3) := by decide +kernel
theorem dX7_image_24 : decode cX7_image 24 = .ok (.goto (-22), 3) := by decide +kernel
theorem dX7_image_27 : decode cX7_image 27 = .ok (.aload_n 0, 1) := by decide +kernel
theorem dX7_image_28 : decode cX7_image 28 = .ok (.iconst 1, 1) := by decide +kernel
theorem dX7_image_29 : decode cX7_image 29 = .ok (.putfield 354, 3) := by decide +kernel
theorem dX7_image_32 : decode cX7_image 32 = .ok (.iconst 1, 1) := by decide +kernel
theorem dX7_image_33 : decode cX7_image 33 = .ok (.ireturn, 1) := by decide +kernel
theorem dX7_undo_0 : decode cX7_undo 0 = .ok (.aload_n 0, 1) := by decide +kernel
theorem dX7_undo_1 : decode cX7_undo 1 = .ok (.getfield 354, 3) := by decide +kernel
theorem dX7_undo_4 : decode cX7_undo 4 = .ok (.ifCond .ne 10, 3) := by decide +kernel
theorem dX7_undo_7 : decode cX7_undo 7 = .ok (.aload_n 0, 1) := by decide +kernel
theorem dX7_undo_8 : decode cX7_undo 8 = .ok (.ldc 157, 2) := by decide +kernel
theorem dX7_undo_10 : decode cX7_undo 10 = .ok (.invokevirtual 59, 3) := by decide +kernel
theorem dX7_undo_13 : decode cX7_undo 13 = .ok (.ireturn, 1) := by decide +kernel
theorem dX7_undo_14 : decode cX7_undo 14 = .ok (.iconst 0, 1) := by decide +kernel
theorem dX7_undo_15 : decode cX7_undo 15 = .ok (.istore_n 1, 1) := by decide +kernel
theorem dX7_undo_16 : decode cX7_undo 16 = .ok (.iload_n 1, 1) := by decide +kernel
theorem dX7_undo_17 : decode cX7_undo 17 = .ok (.sipush 167, 3) := by decide +kernel
theorem dX7_undo_20 : decode cX7_undo 20 = .ok (.if_icmp .ge 21, 3) := by decide +kernel
theorem dX7_undo_23 : decode cX7_undo 23 = .ok (.aload_n 0, 1) := by decide +kernel
theorem dX7_undo_24 : decode cX7_undo 24 = .ok (.getfield 7, 3) := by decide +kernel
theorem dX7_undo_27 : decode cX7_undo 27 = .ok (.iload_n 1, 1) := by decide +kernel
theorem dX7_undo_28 : decode cX7_undo 28 = .ok (.aload_n 0, 1) := by decide +kernel
theorem dX7_undo_29 : decode cX7_undo 29 = .ok (.getfield 13, 3) := by decide +kernel
theorem dX7_undo_32 : decode cX7_undo 32 = .ok (.iload_n 1, 1) := by decide +kernel
theorem dX7_undo_33 : decode cX7_undo 33 = .ok (.iaload, 1) := by decide +kernel
theorem dX7_undo_34 : decode cX7_undo 34 = .ok (.iastore, 1) := by decide +kernel
theorem dX7_undo_35 : decode cX7_undo 35 = .ok (.iinc 1 1, 3) := by decide +kernel
theorem dX7_undo_38 : decode cX7_undo 38 = .ok (.goto (-22), 3) := by decide +kernel
theorem dX7_undo_41 : decode cX7_undo 41 = .ok (.aload_n 0, 1) := by decide +kernel
theorem dX7_undo_42 : decode cX7_undo 42 = .ok (.getfield 7, 3) := by decide +kernel
theorem dX7_undo_45 : decode cX7_undo 45 = .ok (.iconst 0, 1) := by decide +kernel
theorem dX7_undo_46 : decode cX7_undo 46 = .ok (.iaload, 1) := by decide +kernel
theorem dX7_undo_47 : decode cX7_undo 47 = .ok (.ireturn, 1) := by decide +kernel
theorem dX7_tear_0 : decode cX7_tear 0 = .ok (.aload_n 0, 1) := by decide +kernel
theorem dX7_tear_1 : decode cX7_tear 1 = .ok (.getfield 354, 3) := by decide +kernel
theorem dX7_tear_4 : decode cX7_tear 4 = .ok (.ifCond .eq 7, 3) := by decide +kernel
theorem dX7_tear_7 : decode cX7_tear 7 = .ok (.iconst 1, 1) := by decide +kernel
theorem dX7_tear_8 : decode cX7_tear 8 = .ok (.goto 4, 3) := by decide +kernel
theorem dX7_tear_11 : decode cX7_tear 11 = .ok (.iconst 0, 1) := by decide +kernel
theorem dX7_tear_12 : decode cX7_tear 12 = .ok (.istore_n 1, 1) := by decide +kernel
theorem dX7_tear_13 : decode cX7_tear 13 = .ok (.aload_n 0, 1) := by decide +kernel
theorem dX7_tear_14 : decode cX7_tear 14 = .ok (.iconst 0, 1) := by decide +kernel
theorem dX7_tear_15 : decode cX7_tear 15 = .ok (.putfield 354, 3) := by decide +kernel
theorem dX7_tear_18 : decode cX7_tear 18 = .ok (.iload_n 1, 1) := by decide +kernel
theorem dX7_tear_19 : decode cX7_tear 19 = .ok (.ireturn, 1) := by decide +kernel
theorem dX7_stones_0 : decode cX7_stones 0 = .ok (.iconst 0, 1) := by decide +kernel
theorem dX7_stones_1 : decode cX7_stones 1 = .ok (.istore_n 1, 1) := by decide +kernel
theorem dX7_stones_2 : decode cX7_stones 2 = .ok (.iconst 0, 1) := by decide +kernel
theorem dX7_stones_3 : decode cX7_stones 3 = .ok (.istore_n 2, 1) := by decide +kernel
theorem dX7_stones_4 : decode cX7_stones 4 = .ok (.iload_n 2, 1) := by decide +kernel
theorem dX7_stones_5 : decode cX7_stones 5 = .ok (.bipush 31, 2) := by decide +kernel
theorem dX7_stones_7 : decode cX7_stones 7 = .ok (.if_icmp .ge 29, 3) := by decide +kernel
theorem dX7_stones_10 : decode cX7_stones 10 = .ok (.iload_n 1, 1) := by decide +kernel
theorem dX7_stones_11 : decode cX7_stones 11 = .ok (.aload_n 0, 1) := by decide +kernel
theorem dX7_stones_12 : decode cX7_stones 12 = .ok (.getfield 7, 3) := by decide +kernel
theorem dX7_stones_15 : decode cX7_stones 15 = .ok (.bipush 36, 2) := by decide +kernel
theorem dX7_stones_17 : decode cX7_stones 17 = .ok (.iload_n 2, 1) := by decide +kernel
theorem dX7_stones_18 : decode cX7_stones 18 = .ok (.iadd, 1) := by decide +kernel
theorem dX7_stones_19 : decode cX7_stones 19 = .ok (.iaload, 1) := by decide +kernel
theorem dX7_stones_20 : decode cX7_stones 20 = .ok (.ifCond .ne 7, 3) := by decide +kernel
theorem dX7_stones_23 : decode cX7_stones 23 = .ok (.iconst 1, 1) := by decide +kernel
theorem dX7_stones_24 : decode cX7_stones 24 = .ok (.goto 4, 3) := by decide +kernel
theorem dX7_stones_27 : decode cX7_stones 27 = .ok (.iconst 0, 1) := by decide +kernel
theorem dX7_stones_28 : decode cX7_stones 28 = .ok (.iadd, 1) := by decide +kernel
theorem dX7_stones_29 : decode cX7_stones 29 = .ok (.istore_n 1, 1) := by decide +kernel
theorem dX7_stones_30 : decode cX7_stones 30 = .ok (.iinc 2 1, 3) := by decide +kernel
theorem dX7_stones_33 : decode cX7_stones 33 = .ok (.goto (-29), 3) := by decide +kernel
theorem dX7_stones_36 : decode cX7_stones 36 = .ok (.iload_n 1, 1) := by decide +kernel
theorem dX7_stones_37 : decode cX7_stones 37 = .ok (.ireturn, 1) := by decide +kernel
theorem dX7_held_0 : decode cX7_held 0 = .ok (.iconst 0, 1) := by decide +kernel
theorem dX7_held_1 : decode cX7_held 1 = .ok (.istore_n 1, 1) := by decide +kernel
theorem dX7_held_2 : decode cX7_held 2 = .ok (.iconst 0, 1) := by decide +kernel
theorem dX7_held_3 : decode cX7_held 3 = .ok (.istore_n 2, 1) := by decide +kernel
theorem dX7_held_4 : decode cX7_held 4 = .ok (.iload_n 2, 1) := by decide +kernel
theorem dX7_held_5 : decode cX7_held 5 = .ok (.bipush 10, 2) := by decide +kernel
theorem dX7_held_7 : decode cX7_held 7 = .ok (.if_icmp .ge 30, 3) := by decide +kernel
theorem dX7_held_10 : decode cX7_held 10 = .ok (.iload_n 1, 1) := by decide +kernel
theorem dX7_held_11 : decode cX7_held 11 = .ok (.aload_n 0, 1) := by decide +kernel
theorem dX7_held_12 : decode cX7_held 12 = .ok (.getfield 7, 3) := by decide +kernel
theorem dX7_held_15 : decode cX7_held 15 = .ok (.sipush 157, 3) := by decide +kernel
theorem dX7_held_18 : decode cX7_held 18 = .ok (.iload_n 2, 1) := by decide +kernel
theorem dX7_held_19 : decode cX7_held 19 = .ok (.iadd, 1) := by decide +kernel
theorem dX7_held_20 : decode cX7_held 20 = .ok (.iaload, 1) := by decide +kernel
theorem dX7_held_21 : decode cX7_held 21 = .ok (.ifCond .ge 7, 3) := by decide +kernel
theorem dX7_held_24 : decode cX7_held 24 = .ok (.iconst 0, 1) := by decide +kernel
theorem dX7_held_25 : decode cX7_held 25 = .ok (.goto 4, 3) := by decide +kernel
theorem dX7_held_28 : decode cX7_held 28 = .ok (.iconst 1, 1) := by decide +kernel
theorem dX7_held_29 : decode cX7_held 29 = .ok (.iadd, 1) := by decide +kernel
theorem dX7_held_30 : decode cX7_held 30 = .ok (.istore_n 1, 1) := by decide +kernel
theorem dX7_held_31 : decode cX7_held 31 = .ok (.iinc 2 1, 3) := by decide +kernel
theorem dX7_held_34 : decode cX7_held 34 = .ok (.goto (-30), 3) := by decide +kernel
theorem dX7_held_37 : decode cX7_held 37 = .ok (.iload_n 1, 1) := by decide +kernel
theorem dX7_held_38 : decode cX7_held 38 = .ok (.ireturn, 1) := by decide +kernel
theorem dX7_count_0 : decode cX7_count 0 = .ok (.iload_n 1, 1) := by decide +kernel
theorem dX7_count_1 : decode cX7_count 1 = .ok (.tableswitch 96 0 7 #[47, 54, 61, 68, 74, 79, 84, 91], 47) := by decide +kernel
theorem dX7_count_48 : decode cX7_count 48 = .ok (.aload_n 0, 1) := by decide +kernel
theorem dX7_count_49 : decode cX7_count 49 = .ok (.getfield 7, 3) := by decide +kernel
theorem dX7_count_52 : decode cX7_count 52 = .ok (.iconst 0, 1) := by decide +kernel
theorem dX7_count_53 : decode cX7_count 53 = .ok (.iaload, 1) := by decide +kernel
theorem dX7_count_54 : decode cX7_count 54 = .ok (.ireturn, 1) := by decide +kernel
theorem dX7_count_55 : decode cX7_count 55 = .ok (.aload_n 0, 1) := by decide +kernel
theorem dX7_count_56 : decode cX7_count 56 = .ok (.getfield 7, 3) := by decide +kernel
theorem dX7_count_59 : decode cX7_count 59 = .ok (.iconst 1, 1) := by decide +kernel
theorem dX7_count_60 : decode cX7_count 60 = .ok (.iaload, 1) := by decide +kernel
theorem dX7_count_61 : decode cX7_count 61 = .ok (.ireturn, 1) := by decide +kernel
theorem dX7_count_62 : decode cX7_count 62 = .ok (.aload_n 0, 1) := by decide +kernel
theorem dX7_count_63 : decode cX7_count 63 = .ok (.bipush 7, 2) := by decide +kernel
theorem dX7_count_65 : decode cX7_count 65 = .ok (.invokevirtual 151, 3) := by decide +kernel
theorem dX7_count_68 : decode cX7_count 68 = .ok (.ireturn, 1) := by decide +kernel
theorem dX7_count_69 : decode cX7_count 69 = .ok (.aload_n 0, 1) := by decide +kernel
theorem dX7_count_70 : decode cX7_count 70 = .ok (.iconst 1, 1) := by decide +kernel
theorem dX7_count_71 : decode cX7_count 71 = .ok (.invokevirtual 151, 3) := by decide +kernel
theorem dX7_count_74 : decode cX7_count 74 = .ok (.ireturn, 1) := by decide +kernel
theorem dX7_count_75 : decode cX7_count 75 = .ok (.aload_n 0, 1) := by decide +kernel
theorem dX7_count_76 : decode cX7_count 76 = .ok (.invokevirtual 357, 3) := by decide +kernel
theorem dX7_count_79 : decode cX7_count 79 = .ok (.ireturn, 1) := by decide +kernel
theorem dX7_count_80 : decode cX7_count 80 = .ok (.aload_n 0, 1) := by decide +kernel
theorem dX7_count_81 : decode cX7_count 81 = .ok (.getfield 219, 3) := by decide +kernel
theorem dX7_count_84 : decode cX7_count 84 = .ok (.ireturn, 1) := by decide +kernel
theorem dX7_count_85 : decode cX7_count 85 = .ok (.aload_n 0, 1) := by decide +kernel
theorem dX7_count_86 : decode cX7_count 86 = .ok (.getfield 7, 3) := by decide +kernel
theorem dX7_count_89 : decode cX7_count 89 = .ok (.iconst 4, 1) := by decide +kernel
theorem dX7_count_90 : decode cX7_count 90 = .ok (.iaload, 1) := by decide +kernel
theorem dX7_count_91 : decode cX7_count 91 = .ok (.ireturn, 1) := by decide +kernel
theorem dX7_count_92 : decode cX7_count 92 = .ok (.aload_n 0, 1) := by decide +kernel
theorem dX7_count_93 : decode cX7_count 93 = .ok (.invokevirtual 360, 3) := by decide +kernel
theorem dX7_count_96 : decode cX7_count 96 = .ok (.ireturn, 1) := by decide +kernel
theorem dX7_count_97 : decode cX7_count 97 = .ok (.aload_n 0, 1) := by decide +kernel
theorem dX7_count_98 : decode cX7_count 98 = .ok (.ldc 43, 2) := by decide +kernel
theorem dX7_count_100 : decode cX7_count 100 = .ok (.invokevirtual 59, 3) := by decide +kernel
theorem dX7_count_103 : decode cX7_count 103 = .ok (.ireturn, 1) := by decide +kernel
theorem dX7_status_0 : decode cX7_status 0 = .ok (.iload_n 1, 1) := by decide +kernel
theorem dX7_status_1 : decode cX7_status 1 = .ok (.i2l, 1) := by decide +kernel
theorem dX7_status_2 : decode cX7_status 2 = .ok (.ldc2_w 363, 3) := by decide +kernel
theorem dX7_status_5 : decode cX7_status 5 = .ok (.ldc2_w 76, 3) := by decide +kernel
theorem dX7_status_8 : decode cX7_status 8 = .ok (.invokestatic 46, 3) := by decide +kernel
theorem dX7_status_11 : decode cX7_status 11 = .ok (.ifCond .ne 10, 3) := by decide +kernel
theorem dX7_status_14 : decode cX7_status 14 = .ok (.aload_n 0, 1) := by decide +kernel
theorem dX7_status_15 : decode cX7_status 15 = .ok (.ldc 43, 2) := by decide +kernel
theorem dX7_status_17 : decode cX7_status 17 = .ok (.invokevirtual 59, 3) := by decide +kernel
theorem dX7_status_20 : decode cX7_status 20 = .ok (.ireturn, 1) := by decide +kernel
theorem dX7_status_21 : decode cX7_status 21 = .ok (.iconst 0, 1) := by decide +kernel
theorem dX7_status_22 : decode cX7_status 22 = .ok (.istore_n 2, 1) := by decide +kernel
theorem dX7_status_23 : decode cX7_status 23 = .ok (.iconst 0, 1) := by decide +kernel
theorem dX7_status_24 : decode cX7_status 24 = .ok (.istore_n 3, 1) := by decide +kernel
theorem dX7_status_25 : decode cX7_status 25 = .ok (.iload_n 3, 1) := by decide +kernel
theorem dX7_status_26 : decode cX7_status 26 = .ok (.bipush 7, 2) := by decide +kernel
theorem dX7_status_28 : decode cX7_status 28 = .ok (.if_icmp .ge 31, 3) := by decide +kernel
theorem dX7_status_31 : decode cX7_status 31 = .ok (.iload_n 2, 1) := by decide +kernel
theorem dX7_status_32 : decode cX7_status 32 = .ok (.iload_n 1, 1) := by decide +kernel
theorem dX7_status_33 : decode cX7_status 33 = .ok (.ifCond .lt 8, 3) := by decide +kernel
theorem dX7_status_36 : decode cX7_status 36 = .ok (.iload_n 3, 1) := by decide +kernel
theorem dX7_status_37 : decode cX7_status 37 = .ok (.iload_n 1, 1) := by decide +kernel
theorem dX7_status_38 : decode cX7_status 38 = .ok (.if_icmp .ne 12, 3) := by decide +kernel
theorem dX7_status_41 : decode cX7_status 41 = .ok (.aload_n 0, 1) := by decide +kernel
theorem dX7_status_42 : decode cX7_status 42 = .ok (.getfield 19, 3) := by decide +kernel
theorem dX7_status_45 : decode cX7_status 45 = .ok (.iload_n 3, 1) := by decide +kernel
theorem dX7_status_46 : decode cX7_status 46 = .ok (.iaload, 1) := by decide +kernel
theorem dX7_status_47 : decode cX7_status 47 = .ok (.goto 4, 3) := by decide +kernel
theorem dX7_status_50 : decode cX7_status 50 = .ok (.iconst 0, 1) := by decide +kernel
theorem dX7_status_51 : decode cX7_status 51 = .ok (.iadd, 1) := by decide +kernel
theorem dX7_status_52 : decode cX7_status 52 = .ok (.istore_n 2, 1) := by decide +kernel
theorem dX7_status_53 : decode cX7_status 53 = .ok (.iinc 3 1, 3) := by decide +kernel
theorem dX7_status_56 : decode cX7_status 56 = .ok (.goto (-31), 3) := by decide +kernel
theorem dX7_status_59 : decode cX7_status 59 = .ok (.iload_n 2, 1) := by decide +kernel
theorem dX7_status_60 : decode cX7_status 60 = .ok (.ireturn, 1) := by decide +kernel
