theorem dX0_init_0 : decode cX0_init 0 = .ok (.aload_n 0, 1) := by decide +kernel
theorem dX0_init_1 : decode cX0_init 1 = .ok (.invokespecial 5, 3) := by decide +kernel
theorem dX0_init_4 : decode cX0_init 4 = .ok (.aload_n 0, 1) := by decide +kernel
theorem dX0_init_5 : decode cX0_init 5 = .ok (.sipush 1024, 3) := by decide +kernel
theorem dX0_init_8 : decode cX0_init 8 = .ok (.newarray .int, 2) := by decide +kernel
theorem dX0_init_10 : decode cX0_init 10 = .ok (.putfield 11, 3) := by decide +kernel
theorem dX0_init_13 : decode cX0_init 13 = .ok (.return_, 1) := by decide +kernel
theorem dX0_leftSide_0 : decode cX0_leftSide 0 = .ok (.aload_n 0, 1) := by decide +kernel
theorem dX0_leftSide_1 : decode cX0_leftSide 1 = .ok (.aload_n 1, 1) := by decide +kernel
theorem dX0_leftSide_2 : decode cX0_leftSide 2 = .ok (.invokevirtual 15, 3) := by decide +kernel
theorem dX0_leftSide_5 : decode cX0_leftSide 5 = .ok (.iload_n 2, 1) := by decide +kernel
theorem dX0_leftSide_6 : decode cX0_leftSide 6 = .ok (.iload_n 2, 1) := by decide +kernel
theorem dX0_leftSide_7 : decode cX0_leftSide 7 = .ok (.ineg, 1) := by decide +kernel
theorem dX0_leftSide_8 : decode cX0_leftSide 8 = .ok (.iand, 1) := by decide +kernel
theorem dX0_leftSide_9 : decode cX0_leftSide 9 = .ok (.istore_n 3, 1) := by decide +kernel
theorem dX0_leftSide_10 : decode cX0_leftSide 10 = .ok (.iload_n 2, 1) := by decide +kernel
theorem dX0_leftSide_11 : decode cX0_leftSide 11 = .ok (.istore 4, 2) := by decide +kernel
theorem dX0_leftSide_13 : decode cX0_leftSide 13 = .ok (.iload_n 2, 1) := by decide +kernel
theorem dX0_leftSide_14 : decode cX0_leftSide 14 = .ok (.istore 5, 2) := by decide +kernel
theorem dX0_leftSide_16 : decode cX0_leftSide 16 = .ok (.iload 5, 2) := by decide +kernel
theorem dX0_leftSide_18 : decode cX0_leftSide 18 = .ok (.iload_n 3, 1) := by decide +kernel
theorem dX0_leftSide_19 : decode cX0_leftSide 19 = .ok (.if_icmp .lt 58, 3) := by decide +kernel
theorem dX0_leftSide_22 : decode cX0_leftSide 22 = .ok (.iload 5, 2) := by decide +kernel
theorem dX0_leftSide_24 : decode cX0_leftSide 24 = .ok (.iload_n 2, 1) := by decide +kernel
theorem dX0_leftSide_25 : decode cX0_leftSide 25 = .ok (.iconst (-1), 1) := by decide +kernel
theorem dX0_leftSide_26 : decode cX0_leftSide 26 = .ok (.ixor, 1) := by decide +kernel
theorem dX0_leftSide_27 : decode cX0_leftSide 27 = .ok (.iand, 1) := by decide +kernel
theorem dX0_leftSide_28 : decode cX0_leftSide 28 = .ok (.ifCond .ne 14, 3) := by decide +kernel
theorem dX0_leftSide_31 : decode cX0_leftSide 31 = .ok (.iload 5, 2) := by decide +kernel
theorem dX0_leftSide_33 : decode cX0_leftSide 33 = .ok (.iload_n 3, 1) := by decide +kernel
theorem dX0_leftSide_34 : decode cX0_leftSide 34 = .ok (.iand, 1) := by decide +kernel
theorem dX0_leftSide_35 : decode cX0_leftSide 35 = .ok (.ifCond .eq 7, 3) := by decide +kernel
theorem dX0_leftSide_38 : decode cX0_leftSide 38 = .ok (.iconst 1, 1) := by decide +kernel
theorem dX0_leftSide_39 : decode cX0_leftSide 39 = .ok (.goto 4, 3) := by decide +kernel
theorem dX0_leftSide_42 : decode cX0_leftSide 42 = .ok (.iconst 0, 1) := by decide +kernel
theorem dX0_leftSide_43 : decode cX0_leftSide 43 = .ok (.istore 6, 2) := by decide +kernel
theorem dX0_leftSide_45 : decode cX0_leftSide 45 = .ok (.iload 6, 2) := by decide +kernel
theorem dX0_leftSide_47 : decode cX0_leftSide 47 = .ok (.ifCond .eq 24, 3) := by decide +kernel
theorem dX0_leftSide_50 : decode cX0_leftSide 50 = .ok (.aload_n 0, 1) := by decide +kernel
theorem dX0_leftSide_51 : decode cX0_leftSide 51 = .ok (.iload_n 2, 1) := by decide +kernel
theorem dX0_leftSide_52 : decode cX0_leftSide 52 = .ok (.iload 5, 2) := by decide +kernel
theorem dX0_leftSide_54 : decode cX0_leftSide 54 = .ok (.invokevirtual 19, 3) := by decide +kernel
theorem dX0_leftSide_57 : decode cX0_leftSide 57 = .ok (.aload_n 0, 1) := by decide +kernel
theorem dX0_leftSide_58 : decode cX0_leftSide 58 = .ok (.iload_n 2, 1) := by decide +kernel
theorem dX0_leftSide_59 : decode cX0_leftSide 59 = .ok (.iload 4, 2) := by decide +kernel
theorem dX0_leftSide_61 : decode cX0_leftSide 61 = .ok (.invokevirtual 19, 3) := by decide +kernel
theorem dX0_leftSide_64 : decode cX0_leftSide 64 = .ok (.if_icmp .gt 7, 3) := by decide +kernel
theorem dX0_leftSide_67 : decode cX0_leftSide 67 = .ok (.iload 5, 2) := by decide +kernel
theorem dX0_leftSide_69 : decode cX0_leftSide 69 = .ok (.istore 4, 2) := by decide +kernel
theorem dX0_leftSide_71 : decode cX0_leftSide 71 = .ok (.iinc 5 (-1), 3) := by decide +kernel
theorem dX0_leftSide_74 : decode cX0_leftSide 74 = .ok (.goto (-58), 3) := by decide +kernel
theorem dX0_leftSide_77 : decode cX0_leftSide 77 = .ok (.iload 4, 2) := by decide +kernel
theorem dX0_leftSide_79 : decode cX0_leftSide 79 = .ok (.ireturn, 1) := by decide +kernel
theorem dX0_weighAllSets_0 : decode cX0_weighAllSets 0 = .ok (.aload_n 0, 1) := by decide +kernel
theorem dX0_weighAllSets_1 : decode cX0_weighAllSets 1 = .ok (.getfield 11, 3) := by decide +kernel
theorem dX0_weighAllSets_4 : decode cX0_weighAllSets 4 = .ok (.iconst 0, 1) := by decide +kernel
theorem dX0_weighAllSets_5 : decode cX0_weighAllSets 5 = .ok (.iconst 0, 1) := by decide +kernel
theorem dX0_weighAllSets_6 : decode cX0_weighAllSets 6 = .ok (.iastore, 1) := by decide +kernel
theorem dX0_weighAllSets_7 : decode cX0_weighAllSets 7 = .ok (.iconst 0, 1) := by decide +kernel
theorem dX0_weighAllSets_8 : decode cX0_weighAllSets 8 = .ok (.istore_n 2, 1) := by decide +kernel
theorem dX0_weighAllSets_9 : decode cX0_weighAllSets 9 = .ok (.iload_n 2, 1) := by decide +kernel
theorem dX0_weighAllSets_10 : decode cX0_weighAllSets 10 = .ok (.aload_n 1, 1) := by decide +kernel
theorem dX0_weighAllSets_11 : decode cX0_weighAllSets 11 = .ok (.getfield 23, 3) := by decide +kernel
theorem dX0_weighAllSets_14 : decode cX0_weighAllSets 14 = .ok (.if_icmp .ge 54, 3) := by decide +kernel
theorem dX0_weighAllSets_17 : decode cX0_weighAllSets 17 = .ok (.iconst 1, 1) := by decide +kernel
theorem dX0_weighAllSets_18 : decode cX0_weighAllSets 18 = .ok (.iload_n 2, 1) := by decide +kernel
theorem dX0_weighAllSets_19 : decode cX0_weighAllSets 19 = .ok (.ishl, 1) := by decide +kernel
theorem dX0_weighAllSets_20 : decode cX0_weighAllSets 20 = .ok (.istore_n 3, 1) := by decide +kernel
theorem dX0_weighAllSets_21 : decode cX0_weighAllSets 21 = .ok (.iconst 0, 1) := by decide +kernel
theorem dX0_weighAllSets_22 : decode cX0_weighAllSets 22 = .ok (.istore 4, 2) := by decide +kernel
theorem dX0_weighAllSets_24 : decode cX0_weighAllSets 24 = .ok (.iload 4, 2) := by decide +kernel
theorem dX0_weighAllSets_26 : decode cX0_weighAllSets 26 = .ok (.iload_n 3, 1) := by decide +kernel
theorem dX0_weighAllSets_27 : decode cX0_weighAllSets 27 = .ok (.if_icmp .ge 35, 3) := by decide +kernel
theorem dX0_weighAllSets_30 : decode cX0_weighAllSets 30 = .ok (.aload_n 0, 1) := by decide +kernel
theorem dX0_weighAllSets_31 : decode cX0_weighAllSets 31 = .ok (.getfield 11, 3) := by decide +kernel
theorem dX0_weighAllSets_34 : decode cX0_weighAllSets 34 = .ok (.iload_n 3, 1) := by decide +kernel
theorem dX0_weighAllSets_35 : decode cX0_weighAllSets 35 = .ok (.iload 4, 2) := by decide +kernel
theorem dX0_weighAllSets_37 : decode cX0_weighAllSets 37 = .ok (.ior, 1) := by decide +kernel
theorem dX0_weighAllSets_38 : decode cX0_weighAllSets 38 = .ok (.aload_n 0, 1) := by decide +kernel
theorem dX0_weighAllSets_39 : decode cX0_weighAllSets 39 = .ok (.getfield 11, 3) := by decide +kernel
theorem dX0_weighAllSets_42 : decode cX0_weighAllSets 42 = .ok (.iload 4, 2) := by decide +kernel
theorem dX0_weighAllSets_44 : decode cX0_weighAllSets 44 = .ok (.iaload, 1) := by decide +kernel
theorem dX0_weighAllSets_45 : decode cX0_weighAllSets 45 = .ok (.aload_n 1, 1) := by decide +kernel
theorem dX0_weighAllSets_46 : decode cX0_weighAllSets 46 = .ok (.getfield 29, 3) := by decide +kernel
theorem dX0_weighAllSets_49 : decode cX0_weighAllSets 49 = .ok (.iload_n 2, 1) := by decide +kernel
theorem dX0_weighAllSets_50 : decode cX0_weighAllSets 50 = .ok (.aaload, 1) := by decide +kernel
theorem dX0_weighAllSets_51 : decode cX0_weighAllSets 51 = .ok (.getfield 33, 3) := by decide +kernel
theorem dX0_weighAllSets_54 : decode cX0_weighAllSets 54 = .ok (.iadd, 1) := by decide +kernel
theorem dX0_weighAllSets_55 : decode cX0_weighAllSets 55 = .ok (.iastore, 1) := by decide +kernel
theorem dX0_weighAllSets_56 : decode cX0_weighAllSets 56 = .ok (.iinc 4 1, 3) := by decide +kernel
theorem dX0_weighAllSets_59 : decode cX0_weighAllSets 59 = .ok (.goto (-35), 3) := by decide +kernel
theorem dX0_weighAllSets_62 : decode cX0_weighAllSets 62 = .ok (.iinc 2 1, 3) := by decide +kernel
theorem dX0_weighAllSets_65 : decode cX0_weighAllSets 65 = .ok (.goto (-56), 3) := by decide +kernel
theorem dX0_weighAllSets_68 : decode cX0_weighAllSets 68 = .ok (.return_, 1) := by decide +kernel
theorem dX0_difference_0 : decode cX0_difference 0 = .ok (.aload_n 0, 1) := by decide +kernel
theorem dX0_difference_1 : decode cX0_difference 1 = .ok (.getfield 11, 3) := by decide +kernel
theorem dX0_difference_4 : decode cX0_difference 4 = .ok (.iload_n 1, 1) := by decide +kernel
theorem dX0_difference_5 : decode cX0_difference 5 = .ok (.iaload, 1) := by decide +kernel
theorem dX0_difference_6 : decode cX0_difference 6 = .ok (.iconst 2, 1) := by decide +kernel
theorem dX0_difference_7 : decode cX0_difference 7 = .ok (.aload_n 0, 1) := by decide +kernel
theorem dX0_difference_8 : decode cX0_difference 8 = .ok (.getfield 11, 3) := by decide +kernel
theorem dX0_difference_11 : decode cX0_difference 11 = .ok (.iload_n 2, 1) := by decide +kernel
theorem dX0_difference_12 : decode cX0_difference 12 = .ok (.iaload, 1) := by decide +kernel
theorem dX0_difference_13 : decode cX0_difference 13 = .ok (.imul, 1) := by decide +kernel
theorem dX0_difference_14 : decode cX0_difference 14 = .ok (.isub, 1) := by decide +kernel
theorem dX0_difference_15 : decode cX0_difference 15 = .ok (.invokestatic 38, 3) := by decide +kernel
theorem dX0_difference_18 : decode cX0_difference 18 = .ok (.ireturn, 1) := by decide +kernel
theorem dX0_fewestDrums_0 : decode cX0_fewestDrums 0 = .ok (.aload_n 0, 1) := by decide +kernel
theorem dX0_fewestDrums_1 : decode cX0_fewestDrums 1 = .ok (.getfield 11, 3) := by decide +kernel
theorem dX0_fewestDrums_4 : decode cX0_fewestDrums 4 = .ok (.iconst 0, 1) := by decide +kernel
theorem dX0_fewestDrums_5 : decode cX0_fewestDrums 5 = .ok (.sipush 1000, 3) := by decide +kernel
theorem dX0_fewestDrums_8 : decode cX0_fewestDrums 8 = .ok (.iastore, 1) := by decide +kernel
theorem dX0_fewestDrums_9 : decode cX0_fewestDrums 9 = .ok (.iconst 1, 1) := by decide +kernel
theorem dX0_fewestDrums_10 : decode cX0_fewestDrums 10 = .ok (.istore 4, 2) := by decide +kernel
theorem dX0_fewestDrums_12 : decode cX0_fewestDrums 12 = .ok (.iload 4, 2) := by decide +kernel
theorem dX0_fewestDrums_14 : decode cX0_fewestDrums 14 = .ok (.iload_n 2, 1) := by decide +kernel
theorem dX0_fewestDrums_15 : decode cX0_fewestDrums 15 = .ok (.if_icmp .gt 41, 3) := by decide +kernel
theorem dX0_fewestDrums_18 : decode cX0_fewestDrums 18 = .ok (.iload 4, 2) := by decide +kernel
theorem dX0_fewestDrums_20 : decode cX0_fewestDrums 20 = .ok (.sipush 1024, 3) := by decide +kernel
theorem dX0_fewestDrums_23 : decode cX0_fewestDrums 23 = .ok (.if_icmp .ge 33, 3) := by decide +kernel
theorem dX0_fewestDrums_26 : decode cX0_fewestDrums 26 = .ok (.iload 4, 2) := by decide +kernel
theorem dX0_fewestDrums_28 : decode cX0_fewestDrums 28 = .ok (.iload_n 2, 1) := by decide +kernel
theorem dX0_fewestDrums_29 : decode cX0_fewestDrums 29 = .ok (.iconst (-1), 1) := by decide +kernel
theorem dX0_fewestDrums_30 : decode cX0_fewestDrums 30 = .ok (.ixor, 1) := by decide +kernel
theorem dX0_fewestDrums_31 : decode cX0_fewestDrums 31 = .ok (.iand, 1) := by decide +kernel
theorem dX0_fewestDrums_32 : decode cX0_fewestDrums 32 = .ok (.ifCond .ne 18, 3) := by decide +kernel
theorem dX0_fewestDrums_35 : decode cX0_fewestDrums 35 = .ok (.aload_n 0, 1) := by decide +kernel
theorem dX0_fewestDrums_36 : decode cX0_fewestDrums 36 = .ok (.getfield 11, 3) := by decide +kernel
theorem dX0_fewestDrums_39 : decode cX0_fewestDrums 39 = .ok (.iload 4, 2) := by decide +kernel
theorem dX0_fewestDrums_41 : decode cX0_fewestDrums 41 = .ok (.aload_n 0, 1) := by decide +kernel
theorem dX0_fewestDrums_42 : decode cX0_fewestDrums 42 = .ok (.aload_n 1, 1) := by decide +kernel
theorem dX0_fewestDrums_43 : decode cX0_fewestDrums 43 = .ok (.iload 4, 2) := by decide +kernel
theorem dX0_fewestDrums_45 : decode cX0_fewestDrums 45 = .ok (.iload_n 3, 1) := by decide +kernel
theorem dX0_fewestDrums_46 : decode cX0_fewestDrums 46 = .ok (.invokevirtual 44, 3) := by decide +kernel
theorem dX0_fewestDrums_49 : decode cX0_fewestDrums 49 = .ok (.iastore, 1) := by decide +kernel
theorem dX0_fewestDrums_50 : decode cX0_fewestDrums 50 = .ok (.iinc 4 1, 3) := by decide +kernel
theorem dX0_fewestDrums_53 : decode cX0_fewestDrums 53 = .ok (.goto (-41), 3) := by decide +kernel
theorem dX0_fewestDrums_56 : decode cX0_fewestDrums 56 = .ok (.aload_n 0, 1) := by decide +kernel
theorem dX0_fewestDrums_57 : decode cX0_fewestDrums 57 = .ok (.getfield 11, 3) := by decide +kernel
theorem dX0_fewestDrums_60 : decode cX0_fewestDrums 60 = .ok (.iload_n 2, 1) := by decide +kernel
theorem dX0_fewestDrums_61 : decode cX0_fewestDrums 61 = .ok (.iaload, 1) := by decide +kernel
theorem dX0_fewestDrums_62 : decode cX0_fewestDrums 62 = .ok (.sipush 1000, 3) := by decide +kernel
theorem dX0_fewestDrums_65 : decode cX0_fewestDrums 65 = .ok (.idiv, 1) := by decide +kernel
theorem dX0_fewestDrums_66 : decode cX0_fewestDrums 66 = .ok (.ireturn, 1) := by decide +kernel
theorem dX0_fewestFor_0 : decode cX0_fewestFor 0 = .ok (.sipush 11000, 3) := by decide +kernel
theorem dX0_fewestFor_3 : decode cX0_fewestFor 3 = .ok (.istore 4, 2) := by decide +kernel
theorem dX0_fewestFor_5 : decode cX0_fewestFor 5 = .ok (.iconst 0, 1) := by decide +kernel
theorem dX0_fewestFor_6 : decode cX0_fewestFor 6 = .ok (.istore 5, 2) := by decide +kernel
theorem dX0_fewestFor_8 : decode cX0_fewestFor 8 = .ok (.iload 5, 2) := by decide +kernel
theorem dX0_fewestFor_10 : decode cX0_fewestFor 10 = .ok (.aload_n 1, 1) := by decide +kernel
theorem dX0_fewestFor_11 : decode cX0_fewestFor 11 = .ok (.getfield 23, 3) := by decide +kernel
theorem dX0_fewestFor_14 : decode cX0_fewestFor 14 = .ok (.if_icmp .ge 102, 3) := by decide +kernel
theorem dX0_fewestFor_17 : decode cX0_fewestFor 17 = .ok (.iload_n 2, 1) := by decide +kernel
theorem dX0_fewestFor_18 : decode cX0_fewestFor 18 = .ok (.iload 5, 2) := by decide +kernel
theorem dX0_fewestFor_20 : decode cX0_fewestFor 20 = .ok (.invokestatic 48, 3) := by decide +kernel
theorem dX0_fewestFor_23 : decode cX0_fewestFor 23 = .ok (.ifCond .eq 87, 3) := by decide +kernel
theorem dX0_fewestFor_26 : decode cX0_fewestFor 26 = .ok (.aload_n 0, 1) := by decide +kernel
theorem dX0_fewestFor_27 : decode cX0_fewestFor 27 = .ok (.getfield 11, 3) := by decide +kernel
theorem dX0_fewestFor_30 : decode cX0_fewestFor 30 = .ok (.iload_n 2, 1) := by decide +kernel
theorem dX0_fewestFor_31 : decode cX0_fewestFor 31 = .ok (.iconst 1, 1) := by decide +kernel
theorem dX0_fewestFor_32 : decode cX0_fewestFor 32 = .ok (.iload 5, 2) := by decide +kernel
theorem dX0_fewestFor_34 : decode cX0_fewestFor 34 = .ok (.ishl, 1) := by decide +kernel
theorem dX0_fewestFor_35 : decode cX0_fewestFor 35 = .ok (.ixor, 1) := by decide +kernel
theorem dX0_fewestFor_36 : decode cX0_fewestFor 36 = .ok (.iaload, 1) := by decide +kernel
theorem dX0_fewestFor_37 : decode cX0_fewestFor 37 = .ok (.istore 6, 2) := by decide +kernel
theorem dX0_fewestFor_39 : decode cX0_fewestFor 39 = .ok (.aload_n 1, 1) := by decide +kernel
theorem dX0_fewestFor_40 : decode cX0_fewestFor 40 = .ok (.getfield 29, 3) := by decide +kernel
theorem dX0_fewestFor_43 : decode cX0_fewestFor 43 = .ok (.iload 5, 2) := by decide +kernel
theorem dX0_fewestFor_45 : decode cX0_fewestFor 45 = .ok (.aaload, 1) := by decide +kernel
theorem dX0_fewestFor_46 : decode cX0_fewestFor 46 = .ok (.getfield 33, 3) := by decide +kernel
theorem dX0_fewestFor_49 : decode cX0_fewestFor 49 = .ok (.istore 7, 2) := by decide +kernel
theorem dX0_fewestFor_51 : decode cX0_fewestFor 51 = .ok (.iload 6, 2) := by decide +kernel
theorem dX0_fewestFor_53 : decode cX0_fewestFor 53 = .ok (.sipush 1000, 3) := by decide +kernel
theorem dX0_fewestFor_56 : decode cX0_fewestFor 56 = .ok (.irem, 1) := by decide +kernel
theorem dX0_fewestFor_57 : decode cX0_fewestFor 57 = .ok (.iload 7, 2) := by decide +kernel
theorem dX0_fewestFor_59 : decode cX0_fewestFor 59 = .ok (.iadd, 1) := by decide +kernel
theorem dX0_fewestFor_60 : decode cX0_fewestFor 60 = .ok (.iload_n 3, 1) := by decide +kernel
theorem dX0_fewestFor_61 : decode cX0_fewestFor 61 = .ok (.if_icmp .gt 7, 3) := by decide +kernel
theorem dX0_fewestFor_64 : decode cX0_fewestFor 64 = .ok (.iconst 1, 1) := by decide +kernel
theorem dX0_fewestFor_65 : decode cX0_fewestFor 65 = .ok (.goto 4, 3) := by decide +kernel
theorem dX0_fewestFor_68 : decode cX0_fewestFor 68 = .ok (.iconst 0, 1) := by decide +kernel
theorem dX0_fewestFor_69 : decode cX0_fewestFor 69 = .ok (.istore 8, 2) := by decide +kernel
theorem dX0_fewestFor_71 : decode cX0_fewestFor 71 = .ok (.iload 8, 2) := by decide +kernel
theorem dX0_fewestFor_73 : decode cX0_fewestFor 73 = .ok (.ifCond .eq 11, 3) := by decide +kernel
theorem dX0_fewestFor_76 : decode cX0_fewestFor 76 = .ok (.iload 6, 2) := by decide +kernel
theorem dX0_fewestFor_78 : decode cX0_fewestFor 78 = .ok (.iload 7, 2) := by decide +kernel
theorem dX0_fewestFor_80 : decode cX0_fewestFor 80 = .ok (.iadd, 1) := by decide +kernel
theorem dX0_fewestFor_81 : decode cX0_fewestFor 81 = .ok (.goto 18, 3) := by decide +kernel
theorem dX0_fewestFor_84 : decode cX0_fewestFor 84 = .ok (.iload 6, 2) := by decide +kernel
theorem dX0_fewestFor_86 : decode cX0_fewestFor 86 = .ok (.sipush 1000, 3) := by decide +kernel
theorem dX0_fewestFor_89 : decode cX0_fewestFor 89 = .ok (.idiv, 1) := by decide +kernel
theorem dX0_fewestFor_90 : decode cX0_fewestFor 90 = .ok (.iconst 1, 1) := by decide +kernel
theorem dX0_fewestFor_91 : decode cX0_fewestFor 91 = .ok (.iadd, 1) := by decide +kernel
theorem dX0_fewestFor_92 : decode cX0_fewestFor 92 = .ok (.sipush 1000, 3) := by decide +kernel
theorem dX0_fewestFor_95 : decode cX0_fewestFor 95 = .ok (.imul, 1) := by decide +kernel
theorem dX0_fewestFor_96 : decode cX0_fewestFor 96 = .ok (.iload 7, 2) := by decide +kernel
theorem dX0_fewestFor_98 : decode cX0_fewestFor 98 = .ok (.iadd, 1) := by decide +kernel
theorem dX0_fewestFor_99 : decode cX0_fewestFor 99 = .ok (.istore 9, 2) := by decide +kernel
theorem dX0_fewestFor_101 : decode cX0_fewestFor 101 = .ok (.iload 4, 2) := by decide +kernel
theorem dX0_fewestFor_103 : decode cX0_fewestFor 103 = .ok (.iload 9, 2) := by decide +kernel
theorem dX0_fewestFor_105 : decode cX0_fewestFor 105 = .ok (.invokestatic 52, 3) := by decide +kernel
theorem dX0_fewestFor_108 : decode cX0_fewestFor 108 = .ok (.istore 4, 2) := by decide +kernel
theorem dX0_fewestFor_110 : decode cX0_fewestFor 110 = .ok (.iinc 5 1, 3) := by decide +kernel
theorem dX0_fewestFor_113 : decode cX0_fewestFor 113 = .ok (.goto (-105), 3) := by decide +kernel
theorem dX0_fewestFor_116 : decode cX0_fewestFor 116 = .ok (.iload 4, 2) := by decide +kernel
theorem dX0_fewestFor_118 : decode cX0_fewestFor 118 = .ok (.ireturn, 1) := by decide +kernel
