theorem dX5_init_0 : decode cX5_init 0 = .ok (.aload_n 0, 1) := by decide +kernel
theorem dX5_init_1 : decode cX5_init 1 = .ok (.invokespecial 3, 3) := by decide +kernel
theorem dX5_init_4 : decode cX5_init 4 = .ok (.aload_n 0, 1) := by decide +kernel
theorem dX5_init_5 : decode cX5_init 5 = .ok (.bipush 31, 2) := by decide +kernel
theorem dX5_init_7 : decode cX5_init 7 = .ok (.newarray .int, 2) := by decide +kernel
theorem dX5_init_9 : decode cX5_init 9 = .ok (.putfield 9, 3) := by decide +kernel
theorem dX5_init_12 : decode cX5_init 12 = .ok (.aload_n 0, 1) := by decide +kernel
theorem dX5_init_13 : decode cX5_init 13 = .ok (.bipush 31, 2) := by decide +kernel
theorem dX5_init_15 : decode cX5_init 15 = .ok (.newarray .int, 2) := by decide +kernel
theorem dX5_init_17 : decode cX5_init 17 = .ok (.putfield 15, 3) := by decide +kernel
theorem dX5_init_20 : decode cX5_init 20 = .ok (.aload_n 0, 1) := by decide +kernel
theorem dX5_init_21 : decode cX5_init 21 = .ok (.bipush 10, 2) := by decide +kernel
theorem dX5_init_23 : decode cX5_init 23 = .ok (.anewarray 18, 3) := by decide +kernel
theorem dX5_init_26 : decode cX5_init 26 = .ok (.putfield 20, 3) := by decide +kernel
theorem dX5_init_29 : decode cX5_init 29 = .ok (.aload_n 0, 1) := by decide +kernel
theorem dX5_init_30 : decode cX5_init 30 = .ok (.bipush 10, 2) := by decide +kernel
theorem dX5_init_32 : decode cX5_init 32 = .ok (.newarray .int, 2) := by decide +kernel
theorem dX5_init_34 : decode cX5_init 34 = .ok (.putfield 24, 3) := by decide +kernel
theorem dX5_init_37 : decode cX5_init 37 = .ok (.aload_n 0, 1) := by decide +kernel
theorem dX5_init_38 : decode cX5_init 38 = .ok (.iconst 0, 1) := by decide +kernel
theorem dX5_init_39 : decode cX5_init 39 = .ok (.putfield 27, 3) := by decide +kernel
theorem dX5_init_42 : decode cX5_init 42 = .ok (.aload_n 0, 1) := by decide +kernel
theorem dX5_init_43 : decode cX5_init 43 = .ok (.iconst 0, 1) := by decide +kernel
theorem dX5_init_44 : decode cX5_init 44 = .ok (.putfield 31, 3) := by decide +kernel
theorem dX5_init_47 : decode cX5_init 47 = .ok (.aload_n 0, 1) := by decide +kernel
theorem dX5_init_48 : decode cX5_init 48 = .ok (.bipush 14, 2) := by decide +kernel
theorem dX5_init_50 : decode cX5_init 50 = .ok (.putfield 34, 3) := by decide +kernel
theorem dX5_init_53 : decode cX5_init 53 = .ok (.aload_n 0, 1) := by decide +kernel
theorem dX5_init_54 : decode cX5_init 54 = .ok (.iconst 0, 1) := by decide +kernel
theorem dX5_init_55 : decode cX5_init 55 = .ok (.putfield 37, 3) := by decide +kernel
theorem dX5_init_58 : decode cX5_init 58 = .ok (.aload_n 0, 1) := by decide +kernel
theorem dX5_init_59 : decode cX5_init 59 = .ok (.iconst 1, 1) := by decide +kernel
theorem dX5_init_60 : decode cX5_init 60 = .ok (.putfield 40, 3) := by decide +kernel
theorem dX5_init_63 : decode cX5_init 63 = .ok (.iconst 0, 1) := by decide +kernel
theorem dX5_init_64 : decode cX5_init 64 = .ok (.istore_n 1, 1) := by decide +kernel
theorem dX5_init_65 : decode cX5_init 65 = .ok (.iload_n 1, 1) := by decide +kernel
theorem dX5_init_66 : decode cX5_init 66 = .ok (.bipush 31, 2) := by decide +kernel
theorem dX5_init_68 : decode cX5_init 68 = .ok (.if_icmp .ge 16, 3) := by decide +kernel
theorem dX5_init_71 : decode cX5_init 71 = .ok (.aload_n 0, 1) := by decide +kernel
theorem dX5_init_72 : decode cX5_init 72 = .ok (.getfield 9, 3) := by decide +kernel
theorem dX5_init_75 : decode cX5_init 75 = .ok (.iload_n 1, 1) := by decide +kernel
theorem dX5_init_76 : decode cX5_init 76 = .ok (.iconst 2, 1) := by decide +kernel
theorem dX5_init_77 : decode cX5_init 77 = .ok (.iastore, 1) := by decide +kernel
theorem dX5_init_78 : decode cX5_init 78 = .ok (.iinc 1 1, 3) := by decide +kernel
theorem dX5_init_81 : decode cX5_init 81 = .ok (.goto (-16), 3) := by decide +kernel
theorem dX5_init_84 : decode cX5_init 84 = .ok (.iconst 0, 1) := by decide +kernel
theorem dX5_init_85 : decode cX5_init 85 = .ok (.istore_n 1, 1) := by decide +kernel
theorem dX5_init_86 : decode cX5_init 86 = .ok (.iload_n 1, 1) := by decide +kernel
theorem dX5_init_87 : decode cX5_init 87 = .ok (.bipush 10, 2) := by decide +kernel
theorem dX5_init_89 : decode cX5_init 89 = .ok (.if_icmp .ge 22, 3) := by decide +kernel
theorem dX5_init_92 : decode cX5_init 92 = .ok (.aload_n 0, 1) := by decide +kernel
theorem dX5_init_93 : decode cX5_init 93 = .ok (.getfield 20, 3) := by decide +kernel
theorem dX5_init_96 : decode cX5_init 96 = .ok (.iload_n 1, 1) := by decide +kernel
theorem dX5_init_97 : decode cX5_init 97 = .ok (.new 18, 3) := by decide +kernel
theorem dX5_init_100 : decode cX5_init 100 = .ok (.dup, 1) := by decide +kernel
theorem dX5_init_101 : decode cX5_init 101 = .ok (.invokespecial 43, 3) := by decide +kernel
theorem dX5_init_104 : decode cX5_init 104 = .ok (.aastore, 1) := by decide +kernel
theorem dX5_init_105 : decode cX5_init 105 = .ok (.iinc 1 1, 3) := by decide +kernel
theorem dX5_init_108 : decode cX5_init 108 = .ok (.goto (-22), 3) := by decide +kernel
theorem dX5_init_111 : decode cX5_init 111 = .ok (.iconst 0, 1) := by decide +kernel
theorem dX5_init_112 : decode cX5_init 112 = .ok (.istore_n 1, 1) := by decide +kernel
theorem dX5_init_113 : decode cX5_init 113 = .ok (.iload_n 1, 1) := by decide +kernel
theorem dX5_init_114 : decode cX5_init 114 = .ok (.bipush 10, 2) := by decide +kernel
theorem dX5_init_116 : decode cX5_init 116 = .ok (.if_icmp .ge 16, 3) := by decide +kernel
theorem dX5_init_119 : decode cX5_init 119 = .ok (.aload_n 0, 1) := by decide +kernel
theorem dX5_init_120 : decode cX5_init 120 = .ok (.getfield 24, 3) := by decide +kernel
theorem dX5_init_123 : decode cX5_init 123 = .ok (.iload_n 1, 1) := by decide +kernel
theorem dX5_init_124 : decode cX5_init 124 = .ok (.iconst (-1), 1) := by decide +kernel
theorem dX5_init_125 : decode cX5_init 125 = .ok (.iastore, 1) := by decide +kernel
theorem dX5_init_126 : decode cX5_init 126 = .ok (.iinc 1 1, 3) := by decide +kernel
theorem dX5_init_129 : decode cX5_init 129 = .ok (.goto (-16), 3) := by decide +kernel
theorem dX5_init_132 : decode cX5_init 132 = .ok (.return_, 1) := by decide +kernel
theorem dX5_become_0 : decode cX5_become 0 = .ok (.aload_n 1, 1) := by decide +kernel
theorem dX5_become_1 : decode cX5_become 1 = .ok (.getfield 9, 3) := by decide +kernel
theorem dX5_become_4 : decode cX5_become 4 = .ok (.iconst 0, 1) := by decide +kernel
theorem dX5_become_5 : decode cX5_become 5 = .ok (.aload_n 0, 1) := by decide +kernel
theorem dX5_become_6 : decode cX5_become 6 = .ok (.getfield 9, 3) := by decide +kernel
theorem dX5_become_9 : decode cX5_become 9 = .ok (.iconst 0, 1) := by decide +kernel
theorem dX5_become_10 : decode cX5_become 10 = .ok (.bipush 31, 2) := by decide +kernel
theorem dX5_become_12 : decode cX5_become 12 = .ok (.invokestatic 44, 3) := by decide +kernel
theorem dX5_become_15 : decode cX5_become 15 = .ok (.aload_n 1, 1) := by decide +kernel
theorem dX5_become_16 : decode cX5_become 16 = .ok (.getfield 15, 3) := by decide +kernel
theorem dX5_become_19 : decode cX5_become 19 = .ok (.iconst 0, 1) := by decide +kernel
theorem dX5_become_20 : decode cX5_become 20 = .ok (.aload_n 0, 1) := by decide +kernel
theorem dX5_become_21 : decode cX5_become 21 = .ok (.getfield 15, 3) := by decide +kernel
theorem dX5_become_24 : decode cX5_become 24 = .ok (.iconst 0, 1) := by decide +kernel
theorem dX5_become_25 : decode cX5_become 25 = .ok (.bipush 31, 2) := by decide +kernel
theorem dX5_become_27 : decode cX5_become 27 = .ok (.invokestatic 44, 3) := by decide +kernel
theorem dX5_become_30 : decode cX5_become 30 = .ok (.aload_n 1, 1) := by decide +kernel
theorem dX5_become_31 : decode cX5_become 31 = .ok (.getfield 24, 3) := by decide +kernel
theorem dX5_become_34 : decode cX5_become 34 = .ok (.iconst 0, 1) := by decide +kernel
theorem dX5_become_35 : decode cX5_become 35 = .ok (.aload_n 0, 1) := by decide +kernel
theorem dX5_become_36 : decode cX5_become 36 = .ok (.getfield 24, 3) := by decide +kernel
theorem dX5_become_39 : decode cX5_become 39 = .ok (.iconst 0, 1) := by decide +kernel
theorem dX5_become_40 : decode cX5_become 40 = .ok (.bipush 10, 2) := by decide +kernel
theorem dX5_become_42 : decode cX5_become 42 = .ok (.invokestatic 44, 3) := by decide +kernel
theorem dX5_become_45 : decode cX5_become 45 = .ok (.iconst 0, 1) := by decide +kernel
theorem dX5_become_46 : decode cX5_become 46 = .ok (.istore_n 2, 1) := by decide +kernel
theorem dX5_become_47 : decode cX5_become 47 = .ok (.iload_n 2, 1) := by decide +kernel
theorem dX5_become_48 : decode cX5_become 48 = .ok (.aload_n 1, 1) := by decide +kernel
theorem dX5_become_49 : decode cX5_become 49 = .ok (.getfield 27, 3) := by decide +kernel
theorem dX5_become_52 : decode cX5_become 52 = .ok (.if_icmp .ge 24, 3) := by decide +kernel
theorem dX5_become_55 : decode cX5_become 55 = .ok (.aload_n 0, 1) := by decide +kernel
theorem dX5_become_56 : decode cX5_become 56 = .ok (.getfield 20, 3) := by decide +kernel
theorem dX5_become_59 : decode cX5_become 59 = .ok (.iload_n 2, 1) := by decide +kernel
theorem dX5_become_60 : decode cX5_become 60 = .ok (.aaload, 1) := by decide +kernel
theorem dX5_become_61 : decode cX5_become 61 = .ok (.aload_n 1, 1) := by decide +kernel
theorem dX5_become_62 : decode cX5_become 62 = .ok (.getfield 20, 3) := by decide +kernel
theorem dX5_become_65 : decode cX5_become 65 = .ok (.iload_n 2, 1) := by decide +kernel
theorem dX5_become_66 : decode cX5_become 66 = .ok (.aaload, 1) := by decide +kernel
theorem dX5_become_67 : decode cX5_become 67 = .ok (.invokevirtual 50, 3) := by decide +kernel
theorem dX5_become_70 : decode cX5_become 70 = .ok (.iinc 2 1, 3) := by decide +kernel
theorem dX5_become_73 : decode cX5_become 73 = .ok (.goto (-26), 3) := by decide +kernel
theorem dX5_become_76 : decode cX5_become 76 = .ok (.aload_n 0, 1) := by decide +kernel
theorem dX5_become_77 : decode cX5_become 77 = .ok (.aload_n 1, 1) := by decide +kernel
theorem dX5_become_78 : decode cX5_become 78 = .ok (.getfield 27, 3) := by decide +kernel
theorem dX5_become_81 : decode cX5_become 81 = .ok (.putfield 27, 3) := by decide +kernel
theorem dX5_become_84 : decode cX5_become 84 = .ok (.aload_n 0, 1) := by decide +kernel
theorem dX5_become_85 : decode cX5_become 85 = .ok (.aload_n 1, 1) := by decide +kernel
theorem dX5_become_86 : decode cX5_become 86 = .ok (.getfield 31, 3) := by decide +kernel
theorem dX5_become_89 : decode cX5_become 89 = .ok (.putfield 31, 3) := by decide +kernel
theorem dX5_become_92 : decode cX5_become 92 = .ok (.aload_n 0, 1) := by decide +kernel
theorem dX5_become_93 : decode cX5_become 93 = .ok (.aload_n 1, 1) := by decide +kernel
theorem dX5_become_94 : decode cX5_become 94 = .ok (.getfield 34, 3) := by decide +kernel
theorem dX5_become_97 : decode cX5_become 97 = .ok (.putfield 34, 3) := by decide +kernel
theorem dX5_become_100 : decode cX5_become 100 = .ok (.aload_n 0, 1) := by decide +kernel
theorem dX5_become_101 : decode cX5_become 101 = .ok (.aload_n 1, 1) := by decide +kernel
theorem dX5_become_102 : decode cX5_become 102 = .ok (.getfield 37, 3) := by decide +kernel
theorem dX5_become_105 : decode cX5_become 105 = .ok (.putfield 37, 3) := by decide +kernel
theorem dX5_become_108 : decode cX5_become 108 = .ok (.aload_n 0, 1) := by decide +kernel
theorem dX5_become_109 : decode cX5_become 109 = .ok (.aload_n 1, 1) := by decide +kernel
theorem dX5_become_110 : decode cX5_become 110 = .ok (.getfield 40, 3) := by decide +kernel
theorem dX5_become_113 : decode cX5_become 113 = .ok (.putfield 40, 3) := by decide +kernel
theorem dX5_become_116 : decode cX5_become 116 = .ok (.return_, 1) := by decide +kernel
theorem dX5_isFull_0 : decode cX5_isFull 0 = .ok (.aload_n 0, 1) := by decide +kernel
theorem dX5_isFull_1 : decode cX5_isFull 1 = .ok (.getfield 27, 3) := by decide +kernel
theorem dX5_isFull_4 : decode cX5_isFull 4 = .ok (.bipush 10, 2) := by decide +kernel
theorem dX5_isFull_6 : decode cX5_isFull 6 = .ok (.if_icmp .lt 7, 3) := by decide +kernel
theorem dX5_isFull_9 : decode cX5_isFull 9 = .ok (.iconst 1, 1) := by decide +kernel
theorem dX5_isFull_10 : decode cX5_isFull 10 = .ok (.goto 4, 3) := by decide +kernel
theorem dX5_isFull_13 : decode cX5_isFull 13 = .ok (.iconst 0, 1) := by decide +kernel
theorem dX5_isFull_14 : decode cX5_isFull 14 = .ok (.ireturn, 1) := by decide +kernel
theorem dX5_addThing_0 : decode cX5_addThing 0 = .ok (.aload_n 0, 1) := by decide +kernel
theorem dX5_addThing_1 : decode cX5_addThing 1 = .ok (.invokevirtual 54, 3) := by decide +kernel
theorem dX5_addThing_4 : decode cX5_addThing 4 = .ok (.ifCond .ne 27, 3) := by decide +kernel
theorem dX5_addThing_7 : decode cX5_addThing 7 = .ok (.aload_n 0, 1) := by decide +kernel
theorem dX5_addThing_8 : decode cX5_addThing 8 = .ok (.getfield 20, 3) := by decide +kernel
theorem dX5_addThing_11 : decode cX5_addThing 11 = .ok (.aload_n 0, 1) := by decide +kernel
theorem dX5_addThing_12 : decode cX5_addThing 12 = .ok (.getfield 27, 3) := by decide +kernel
theorem dX5_addThing_15 : decode cX5_addThing 15 = .ok (.aaload, 1) := by decide +kernel
theorem dX5_addThing_16 : decode cX5_addThing 16 = .ok (.iload_n 1, 1) := by decide +kernel
theorem dX5_addThing_17 : decode cX5_addThing 17 = .ok (.iload_n 2, 1) := by decide +kernel
theorem dX5_addThing_18 : decode cX5_addThing 18 = .ok (.invokevirtual 58, 3) := by decide +kernel
theorem dX5_addThing_21 : decode cX5_addThing 21 = .ok (.aload_n 0, 1) := by decide +kernel
theorem dX5_addThing_22 : decode cX5_addThing 22 = .ok (.dup, 1) := by decide +kernel
theorem dX5_addThing_23 : decode cX5_addThing 23 = .ok (.getfield 27, 3) := by decide +kernel
theorem dX5_addThing_26 : decode cX5_addThing 26 = .ok (.iconst 1, 1) := by decide +kernel
theorem dX5_addThing_27 : decode cX5_addThing 27 = .ok (.iadd, 1) := by decide +kernel
theorem dX5_addThing_28 : decode cX5_addThing 28 = .ok (.putfield 27, 3) := by decide +kernel
theorem dX5_addThing_31 : decode cX5_addThing 31 = .ok (.return_, 1) := by decide +kernel
theorem dX5_clearAllBut_0 : decode cX5_clearAllBut 0 = .ok (.iconst 0, 1) := by decide +kernel
theorem dX5_clearAllBut_1 : decode cX5_clearAllBut 1 = .ok (.istore_n 2, 1) := by decide +kernel
theorem dX5_clearAllBut_2 : decode cX5_clearAllBut 2 = .ok (.iload_n 2, 1) := by decide +kernel
theorem dX5_clearAllBut_3 : decode cX5_clearAllBut 3 = .ok (.aload_n 0, 1) := by decide +kernel
theorem dX5_clearAllBut_4 : decode cX5_clearAllBut 4 = .ok (.getfield 27, 3) := by decide +kernel
theorem dX5_clearAllBut_7 : decode cX5_clearAllBut 7 = .ok (.if_icmp .ge 27, 3) := by decide +kernel
theorem dX5_clearAllBut_10 : decode cX5_clearAllBut 10 = .ok (.iload_n 1, 1) := by decide +kernel
theorem dX5_clearAllBut_11 : decode cX5_clearAllBut 11 = .ok (.iload_n 2, 1) := by decide +kernel
theorem dX5_clearAllBut_12 : decode cX5_clearAllBut 12 = .ok (.invokestatic 62, 3) := by decide +kernel
theorem dX5_clearAllBut_15 : decode cX5_clearAllBut 15 = .ok (.ifCond .ne 13, 3) := by decide +kernel
theorem dX5_clearAllBut_18 : decode cX5_clearAllBut 18 = .ok (.aload_n 0, 1) := by decide +kernel
theorem dX5_clearAllBut_19 : decode cX5_clearAllBut 19 = .ok (.getfield 20, 3) := by decide +kernel
theorem dX5_clearAllBut_22 : decode cX5_clearAllBut 22 = .ok (.iload_n 2, 1) := by decide +kernel
theorem dX5_clearAllBut_23 : decode cX5_clearAllBut 23 = .ok (.aaload, 1) := by decide +kernel
theorem dX5_clearAllBut_24 : decode cX5_clearAllBut 24 = .ok (.iconst 2, 1) := by decide +kernel
theorem dX5_clearAllBut_25 : decode cX5_clearAllBut 25 = .ok (.putfield 66, 3) := by decide +kernel
theorem dX5_clearAllBut_28 : decode cX5_clearAllBut 28 = .ok (.iinc 2 1, 3) := by decide +kernel
theorem dX5_clearAllBut_31 : decode cX5_clearAllBut 31 = .ok (.goto (-29), 3) := by decide +kernel
theorem dX5_clearAllBut_34 : decode cX5_clearAllBut 34 = .ok (.return_, 1) := by decide +kernel
theorem dX5_gatesAreShut_0 : decode cX5_gatesAreShut 0 = .ok (.iload_n 1, 1) := by decide +kernel
theorem dX5_gatesAreShut_1 : decode cX5_gatesAreShut 1 = .ok (.bipush 60, 2) := by decide +kernel
theorem dX5_gatesAreShut_3 : decode cX5_gatesAreShut 3 = .ok (.irem, 1) := by decide +kernel
theorem dX5_gatesAreShut_4 : decode cX5_gatesAreShut 4 = .ok (.istore_n 2, 1) := by decide +kernel
theorem dX5_gatesAreShut_5 : decode cX5_gatesAreShut 5 = .ok (.aload_n 0, 1) := by decide +kernel
theorem dX5_gatesAreShut_6 : decode cX5_gatesAreShut 6 = .ok (.getfield 31, 3) := by decide +kernel
theorem dX5_gatesAreShut_9 : decode cX5_gatesAreShut 9 = .ok (.aload_n 0, 1) := by decide +kernel
theorem dX5_gatesAreShut_10 : decode cX5_gatesAreShut 10 = .ok (.getfield 34, 3) := by decide +kernel
theorem dX5_gatesAreShut_13 : decode cX5_gatesAreShut 13 = .ok (.if_icmp .gt 25, 3) := by decide +kernel
theorem dX5_gatesAreShut_16 : decode cX5_gatesAreShut 16 = .ok (.iload_n 2, 1) := by decide +kernel
theorem dX5_gatesAreShut_17 : decode cX5_gatesAreShut 17 = .ok (.aload_n 0, 1) := by decide +kernel
theorem dX5_gatesAreShut_18 : decode cX5_gatesAreShut 18 = .ok (.getfield 31, 3) := by decide +kernel
theorem dX5_gatesAreShut_21 : decode cX5_gatesAreShut 21 = .ok (.if_icmp .lt 15, 3) := by decide +kernel
theorem dX5_gatesAreShut_24 : decode cX5_gatesAreShut 24 = .ok (.iload_n 2, 1) := by decide +kernel
theorem dX5_gatesAreShut_25 : decode cX5_gatesAreShut 25 = .ok (.aload_n 0, 1) := by decide +kernel
theorem dX5_gatesAreShut_26 : decode cX5_gatesAreShut 26 = .ok (.getfield 34, 3) := by decide +kernel
theorem dX5_gatesAreShut_29 : decode cX5_gatesAreShut 29 = .ok (.if_icmp .gt 7, 3) := by decide +kernel
theorem dX5_gatesAreShut_32 : decode cX5_gatesAreShut 32 = .ok (.iconst 1, 1) := by decide +kernel
theorem dX5_gatesAreShut_33 : decode cX5_gatesAreShut 33 = .ok (.goto 4, 3) := by decide +kernel
theorem dX5_gatesAreShut_36 : decode cX5_gatesAreShut 36 = .ok (.iconst 0, 1) := by decide +kernel
theorem dX5_gatesAreShut_37 : decode cX5_gatesAreShut 37 = .ok (.ireturn, 1) := by decide +kernel
theorem dX5_gatesAreShut_38 : decode cX5_gatesAreShut 38 = .ok (.iload_n 2, 1) := by decide +kernel
theorem dX5_gatesAreShut_39 : decode cX5_gatesAreShut 39 = .ok (.aload_n 0, 1) := by decide +kernel
theorem dX5_gatesAreShut_40 : decode cX5_gatesAreShut 40 = .ok (.getfield 31, 3) := by decide +kernel
theorem dX5_gatesAreShut_43 : decode cX5_gatesAreShut 43 = .ok (.if_icmp .ge 11, 3) := by decide +kernel
theorem dX5_gatesAreShut_46 : decode cX5_gatesAreShut 46 = .ok (.iload_n 2, 1) := by decide +kernel
theorem dX5_gatesAreShut_47 : decode cX5_gatesAreShut 47 = .ok (.aload_n 0, 1) := by decide +kernel
theorem dX5_gatesAreShut_48 : decode cX5_gatesAreShut 48 = .ok (.getfield 34, 3) := by decide +kernel
theorem dX5_gatesAreShut_51 : decode cX5_gatesAreShut 51 = .ok (.if_icmp .gt 7, 3) := by decide +kernel
theorem dX5_gatesAreShut_54 : decode cX5_gatesAreShut 54 = .ok (.iconst 1, 1) := by decide +kernel
theorem dX5_gatesAreShut_55 : decode cX5_gatesAreShut 55 = .ok (.goto 4, 3) := by decide +kernel
theorem dX5_gatesAreShut_58 : decode cX5_gatesAreShut 58 = .ok (.iconst 0, 1) := by decide +kernel
theorem dX5_gatesAreShut_59 : decode cX5_gatesAreShut 59 = .ok (.ireturn, 1) := by decide +kernel
theorem dX5_passMinutes_0 : decode cX5_passMinutes 0 = .ok (.iconst 0, 1) := by decide +kernel
theorem dX5_passMinutes_1 : decode cX5_passMinutes 1 = .ok (.istore_n 2, 1) := by decide +kernel
theorem dX5_passMinutes_2 : decode cX5_passMinutes 2 = .ok (.iconst 0, 1) := by decide +kernel
theorem dX5_passMinutes_3 : decode cX5_passMinutes 3 = .ok (.istore_n 3, 1) := by decide +kernel
theorem dX5_passMinutes_4 : decode cX5_passMinutes 4 = .ok (.iload_n 3, 1) := by decide +kernel
theorem dX5_passMinutes_5 : decode cX5_passMinutes 5 = .ok (.iload_n 1, 1) := by decide +kernel
theorem dX5_passMinutes_6 : decode cX5_passMinutes 6 = .ok (.if_icmp .ge 16, 3) := by decide +kernel
theorem dX5_passMinutes_9 : decode cX5_passMinutes 9 = .ok (.iload_n 2, 1) := by decide +kernel
theorem dX5_passMinutes_10 : decode cX5_passMinutes 10 = .ok (.aload_n 0, 1) := by decide +kernel
theorem dX5_passMinutes_11 : decode cX5_passMinutes 11 = .ok (.invokevirtual 69, 3) := by decide +kernel
theorem dX5_passMinutes_14 : decode cX5_passMinutes 14 = .ok (.iadd, 1) := by decide +kernel
theorem dX5_passMinutes_15 : decode cX5_passMinutes 15 = .ok (.istore_n 2, 1) := by decide +kernel
theorem dX5_passMinutes_16 : decode cX5_passMinutes 16 = .ok (.iinc 3 1, 3) := by decide +kernel
theorem dX5_passMinutes_19 : decode cX5_passMinutes 19 = .ok (.goto (-15), 3) := by decide +kernel
theorem dX5_passMinutes_22 : decode cX5_passMinutes 22 = .ok (.iload_n 2, 1) := by decide +kernel
theorem dX5_passMinutes_23 : decode cX5_passMinutes 23 = .ok (.ireturn, 1) := by decide +kernel
theorem dX5_firstMeeting_0 : decode cX5_firstMeeting 0 = .ok (.iconst 1, 1) := by decide +kernel
theorem dX5_firstMeeting_1 : decode cX5_firstMeeting 1 = .ok (.istore_n 2, 1) := by decide +kernel
theorem dX5_firstMeeting_2 : decode cX5_firstMeeting 2 = .ok (.iload_n 2, 1) := by decide +kernel
theorem dX5_firstMeeting_3 : decode cX5_firstMeeting 3 = .ok (.iload_n 1, 1) := by decide +kernel
theorem dX5_firstMeeting_4 : decode cX5_firstMeeting 4 = .ok (.if_icmp .gt 26, 3) := by decide +kernel
theorem dX5_firstMeeting_7 : decode cX5_firstMeeting 7 = .ok (.aload_n 0, 1) := by decide +kernel
theorem dX5_firstMeeting_8 : decode cX5_firstMeeting 8 = .ok (.iconst 1, 1) := by decide +kernel
theorem dX5_firstMeeting_9 : decode cX5_firstMeeting 9 = .ok (.invokevirtual 73, 3) := by decide +kernel
theorem dX5_firstMeeting_12 : decode cX5_firstMeeting 12 = .ok (.ifCond .eq 18, 3) := by decide +kernel
theorem dX5_firstMeeting_15 : decode cX5_firstMeeting 15 = .ok (.aload_n 0, 1) := by decide +kernel
theorem dX5_firstMeeting_16 : decode cX5_firstMeeting 16 = .ok (.invokevirtual 69, 3) := by decide +kernel
theorem dX5_firstMeeting_19 : decode cX5_firstMeeting 19 = .ok (.ifCond .le 5, 3) := by decide +kernel
theorem dX5_firstMeeting_22 : decode cX5_firstMeeting 22 = .ok (.iload_n 2, 1) := by decide +kernel
theorem dX5_firstMeeting_23 : decode cX5_firstMeeting 23 = .ok (.ireturn, 1) := by decide +kernel
theorem dX5_firstMeeting_24 : decode cX5_firstMeeting 24 = .ok (.iinc 2 1, 3) := by decide +kernel
theorem dX5_firstMeeting_27 : decode cX5_firstMeeting 27 = .ok (.goto (-25), 3) := by decide +kernel
theorem dX5_firstMeeting_30 : decode cX5_firstMeeting 30 = .ok (.iconst 0, 1) := by decide +kernel
theorem dX5_firstMeeting_31 : decode cX5_firstMeeting 31 = .ok (.ireturn, 1) := by decide +kernel
theorem dX5_passMinute_0 : decode cX5_passMinute 0 = .ok (.aload_n 0, 1) := by decide +kernel
theorem dX5_passMinute_1 : decode cX5_passMinute 1 = .ok (.iconst 1, 1) := by decide +kernel
theorem dX5_passMinute_2 : decode cX5_passMinute 2 = .ok (.invokevirtual 73, 3) := by decide +kernel
theorem dX5_passMinute_5 : decode cX5_passMinute 5 = .ok (.istore_n 1, 1) := by decide +kernel
theorem dX5_passMinute_6 : decode cX5_passMinute 6 = .ok (.iconst 0, 1) := by decide +kernel
theorem dX5_passMinute_7 : decode cX5_passMinute 7 = .ok (.istore_n 2, 1) := by decide +kernel
theorem dX5_passMinute_8 : decode cX5_passMinute 8 = .ok (.iload_n 1, 1) := by decide +kernel
theorem dX5_passMinute_9 : decode cX5_passMinute 9 = .ok (.ifCond .eq 47, 3) := by decide +kernel
theorem dX5_passMinute_12 : decode cX5_passMinute 12 = .ok (.iconst 0, 1) := by decide +kernel
theorem dX5_passMinute_13 : decode cX5_passMinute 13 = .ok (.istore_n 3, 1) := by decide +kernel
theorem dX5_passMinute_14 : decode cX5_passMinute 14 = .ok (.iload_n 3, 1) := by decide +kernel
theorem dX5_passMinute_15 : decode cX5_passMinute 15 = .ok (.aload_n 0, 1) := by decide +kernel
theorem dX5_passMinute_16 : decode cX5_passMinute 16 = .ok (.getfield 27, 3) := by decide +kernel
theorem dX5_passMinute_19 : decode cX5_passMinute 19 = .ok (.if_icmp .ge 31, 3) := by decide +kernel
theorem dX5_passMinute_22 : decode cX5_passMinute 22 = .ok (.iload_n 1, 1) := by decide +kernel
theorem dX5_passMinute_23 : decode cX5_passMinute 23 = .ok (.iload_n 3, 1) := by decide +kernel
theorem dX5_passMinute_24 : decode cX5_passMinute 24 = .ok (.invokestatic 62, 3) := by decide +kernel
theorem dX5_passMinute_27 : decode cX5_passMinute 27 = .ok (.ifCond .eq 17, 3) := by decide +kernel
theorem dX5_passMinute_30 : decode cX5_passMinute 30 = .ok (.aload_n 0, 1) := by decide +kernel
theorem dX5_passMinute_31 : decode cX5_passMinute 31 = .ok (.aload_n 0, 1) := by decide +kernel
theorem dX5_passMinute_32 : decode cX5_passMinute 32 = .ok (.getfield 20, 3) := by decide +kernel
theorem dX5_passMinute_35 : decode cX5_passMinute 35 = .ok (.iload_n 3, 1) := by decide +kernel
theorem dX5_passMinute_36 : decode cX5_passMinute 36 = .ok (.aaload, 1) := by decide +kernel
theorem dX5_passMinute_37 : decode cX5_passMinute 37 = .ok (.aload_n 0, 1) := by decide +kernel
theorem dX5_passMinute_38 : decode cX5_passMinute 38 = .ok (.getfield 37, 3) := by decide +kernel
theorem dX5_passMinute_41 : decode cX5_passMinute 41 = .ok (.invokevirtual 77, 3) := by decide +kernel
theorem dX5_passMinute_44 : decode cX5_passMinute 44 = .ok (.iinc 3 1, 3) := by decide +kernel
theorem dX5_passMinute_47 : decode cX5_passMinute 47 = .ok (.goto (-33), 3) := by decide +kernel
theorem dX5_passMinute_50 : decode cX5_passMinute 50 = .ok (.aload_n 0, 1) := by decide +kernel
theorem dX5_passMinute_51 : decode cX5_passMinute 51 = .ok (.iload_n 1, 1) := by decide +kernel
theorem dX5_passMinute_52 : decode cX5_passMinute 52 = .ok (.invokevirtual 81, 3) := by decide +kernel
theorem dX5_passMinute_55 : decode cX5_passMinute 55 = .ok (.istore_n 2, 1) := by decide +kernel
theorem dX5_passMinute_56 : decode cX5_passMinute 56 = .ok (.aload_n 0, 1) := by decide +kernel
theorem dX5_passMinute_57 : decode cX5_passMinute 57 = .ok (.dup, 1) := by decide +kernel
theorem dX5_passMinute_58 : decode cX5_passMinute 58 = .ok (.getfield 37, 3) := by decide +kernel
theorem dX5_passMinute_61 : decode cX5_passMinute 61 = .ok (.iconst 1, 1) := by decide +kernel
theorem dX5_passMinute_62 : decode cX5_passMinute 62 = .ok (.iadd, 1) := by decide +kernel
theorem dX5_passMinute_63 : decode cX5_passMinute 63 = .ok (.putfield 37, 3) := by decide +kernel
theorem dX5_passMinute_66 : decode cX5_passMinute 66 = .ok (.iload_n 2, 1) := by decide +kernel
theorem dX5_passMinute_67 : decode cX5_passMinute 67 = .ok (.ireturn, 1) := by decide +kernel
theorem dX5_rollOn_0 : decode cX5_rollOn 0 = .ok (.aload_n 1, 1) := by decide +kernel
theorem dX5_rollOn_1 : decode cX5_rollOn 1 = .ok (.getfield 84, 3) := by decide +kernel
theorem dX5_rollOn_4 : decode cX5_rollOn 4 = .ok (.aload_n 1, 1) := by decide +kernel
theorem dX5_rollOn_5 : decode cX5_rollOn 5 = .ok (.aload_n 0, 1) := by decide +kernel
theorem dX5_rollOn_6 : decode cX5_rollOn 6 = .ok (.getfield 9, 3) := by decide +kernel
theorem dX5_rollOn_9 : decode cX5_rollOn 9 = .ok (.aload_n 1, 1) := by decide +kernel
theorem dX5_rollOn_10 : decode cX5_rollOn 10 = .ok (.getfield 87, 3) := by decide +kernel
theorem dX5_rollOn_13 : decode cX5_rollOn 13 = .ok (.iaload, 1) := by decide +kernel
theorem dX5_rollOn_14 : decode cX5_rollOn 14 = .ok (.invokevirtual 90, 3) := by decide +kernel
theorem dX5_rollOn_17 : decode cX5_rollOn 17 = .ok (.iadd, 1) := by decide +kernel
theorem dX5_rollOn_18 : decode cX5_rollOn 18 = .ok (.aload_n 1, 1) := by decide +kernel
theorem dX5_rollOn_19 : decode cX5_rollOn 19 = .ok (.aload_n 0, 1) := by decide +kernel
theorem dX5_rollOn_20 : decode cX5_rollOn 20 = .ok (.getfield 15, 3) := by decide +kernel
theorem dX5_rollOn_23 : decode cX5_rollOn 23 = .ok (.aload_n 1, 1) := by decide +kernel
theorem dX5_rollOn_24 : decode cX5_rollOn 24 = .ok (.getfield 87, 3) := by decide +kernel
theorem dX5_rollOn_27 : decode cX5_rollOn 27 = .ok (.iaload, 1) := by decide +kernel
theorem dX5_rollOn_28 : decode cX5_rollOn 28 = .ok (.invokevirtual 93, 3) := by decide +kernel
theorem dX5_rollOn_31 : decode cX5_rollOn 31 = .ok (.isub, 1) := by decide +kernel
theorem dX5_rollOn_32 : decode cX5_rollOn 32 = .ok (.istore_n 3, 1) := by decide +kernel
theorem dX5_rollOn_33 : decode cX5_rollOn 33 = .ok (.aload_n 1, 1) := by decide +kernel
theorem dX5_rollOn_34 : decode cX5_rollOn 34 = .ok (.iconst 0, 1) := by decide +kernel
theorem dX5_rollOn_35 : decode cX5_rollOn 35 = .ok (.bipush 99, 2) := by decide +kernel
theorem dX5_rollOn_37 : decode cX5_rollOn 37 = .ok (.iload_n 3, 1) := by decide +kernel
theorem dX5_rollOn_38 : decode cX5_rollOn 38 = .ok (.invokestatic 96, 3) := by decide +kernel
theorem dX5_rollOn_41 : decode cX5_rollOn 41 = .ok (.invokestatic 102, 3) := by decide +kernel
theorem dX5_rollOn_44 : decode cX5_rollOn 44 = .ok (.putfield 84, 3) := by decide +kernel
theorem dX5_rollOn_47 : decode cX5_rollOn 47 = .ok (.aload_n 0, 1) := by decide +kernel
theorem dX5_rollOn_48 : decode cX5_rollOn 48 = .ok (.iload_n 2, 1) := by decide +kernel
theorem dX5_rollOn_49 : decode cX5_rollOn 49 = .ok (.invokevirtual 105, 3) := by decide +kernel
theorem dX5_rollOn_52 : decode cX5_rollOn 52 = .ok (.istore 4, 2) := by decide +kernel
theorem dX5_rollOn_54 : decode cX5_rollOn 54 = .ok (.aload_n 1, 1) := by decide +kernel
theorem dX5_rollOn_55 : decode cX5_rollOn 55 = .ok (.getfield 84, 3) := by decide +kernel
theorem dX5_rollOn_58 : decode cX5_rollOn 58 = .ok (.bipush 10, 2) := by decide +kernel
theorem dX5_rollOn_60 : decode cX5_rollOn 60 = .ok (.idiv, 1) := by decide +kernel
theorem dX5_rollOn_61 : decode cX5_rollOn 61 = .ok (.istore 5, 2) := by decide +kernel
theorem dX5_rollOn_63 : decode cX5_rollOn 63 = .ok (.iconst 0, 1) := by decide +kernel
theorem dX5_rollOn_64 : decode cX5_rollOn 64 = .ok (.istore 6, 2) := by decide +kernel
theorem dX5_rollOn_66 : decode cX5_rollOn 66 = .ok (.iload 6, 2) := by decide +kernel
theorem dX5_rollOn_68 : decode cX5_rollOn 68 = .ok (.iload 5, 2) := by decide +kernel
theorem dX5_rollOn_70 : decode cX5_rollOn 70 = .ok (.if_icmp .ge 31, 3) := by decide +kernel
theorem dX5_rollOn_73 : decode cX5_rollOn 73 = .ok (.aload_n 1, 1) := by decide +kernel
theorem dX5_rollOn_74 : decode cX5_rollOn 74 = .ok (.getfield 66, 3) := by decide +kernel
theorem dX5_rollOn_77 : decode cX5_rollOn 77 = .ok (.iconst 1, 1) := by decide +kernel
theorem dX5_rollOn_78 : decode cX5_rollOn 78 = .ok (.if_icmp .ne 23, 3) := by decide +kernel
theorem dX5_rollOn_81 : decode cX5_rollOn 81 = .ok (.aload_n 1, 1) := by decide +kernel
theorem dX5_rollOn_82 : decode cX5_rollOn 82 = .ok (.getfield 84, 3) := by decide +kernel
theorem dX5_rollOn_85 : decode cX5_rollOn 85 = .ok (.ifCond .le 16, 3) := by decide +kernel
theorem dX5_rollOn_88 : decode cX5_rollOn 88 = .ok (.aload_n 0, 1) := by decide +kernel
theorem dX5_rollOn_89 : decode cX5_rollOn 89 = .ok (.aload_n 1, 1) := by decide +kernel
theorem dX5_rollOn_90 : decode cX5_rollOn 90 = .ok (.iload 4, 2) := by decide +kernel
theorem dX5_rollOn_92 : decode cX5_rollOn 92 = .ok (.invokevirtual 109, 3) := by decide +kernel
theorem dX5_rollOn_95 : decode cX5_rollOn 95 = .ok (.iinc 6 1, 3) := by decide +kernel
theorem dX5_rollOn_98 : decode cX5_rollOn 98 = .ok (.goto (-32), 3) := by decide +kernel
theorem dX5_rollOn_101 : decode cX5_rollOn 101 = .ok (.aload_n 1, 1) := by decide +kernel
theorem dX5_rollOn_102 : decode cX5_rollOn 102 = .ok (.getfield 84, 3) := by decide +kernel
theorem dX5_rollOn_105 : decode cX5_rollOn 105 = .ok (.ifCond .ne 15, 3) := by decide +kernel
theorem dX5_rollOn_108 : decode cX5_rollOn 108 = .ok (.aload_n 1, 1) := by decide +kernel
theorem dX5_rollOn_109 : decode cX5_rollOn 109 = .ok (.getfield 66, 3) := by decide +kernel
theorem dX5_rollOn_112 : decode cX5_rollOn 112 = .ok (.iconst 2, 1) := by decide +kernel
theorem dX5_rollOn_113 : decode cX5_rollOn 113 = .ok (.if_icmp .eq 7, 3) := by decide +kernel
theorem dX5_rollOn_116 : decode cX5_rollOn 116 = .ok (.aload_n 1, 1) := by decide +kernel
theorem dX5_rollOn_117 : decode cX5_rollOn 117 = .ok (.invokevirtual 113, 3) := by decide +kernel
theorem dX5_rollOn_120 : decode cX5_rollOn 120 = .ok (.return_, 1) := by decide +kernel
theorem dX5_stepOn_0 : decode cX5_stepOn 0 = .ok (.aload_n 1, 1) := by decide +kernel
theorem dX5_stepOn_1 : decode cX5_stepOn 1 = .ok (.getfield 87, 3) := by decide +kernel
theorem dX5_stepOn_4 : decode cX5_stepOn 4 = .ok (.bipush 30, 2) := by decide +kernel
theorem dX5_stepOn_6 : decode cX5_stepOn 6 = .ok (.if_icmp .ge 22, 3) := by decide +kernel
theorem dX5_stepOn_9 : decode cX5_stepOn 9 = .ok (.iload_n 2, 1) := by decide +kernel
theorem dX5_stepOn_10 : decode cX5_stepOn 10 = .ok (.ifCond .eq 24, 3) := by decide +kernel
theorem dX5_stepOn_13 : decode cX5_stepOn 13 = .ok (.aload_n 0, 1) := by decide +kernel
theorem dX5_stepOn_14 : decode cX5_stepOn 14 = .ok (.getfield 15, 3) := by decide +kernel
theorem dX5_stepOn_17 : decode cX5_stepOn 17 = .ok (.aload_n 1, 1) := by decide +kernel
theorem dX5_stepOn_18 : decode cX5_stepOn 18 = .ok (.getfield 87, 3) := by decide +kernel
theorem dX5_stepOn_21 : decode cX5_stepOn 21 = .ok (.iconst 1, 1) := by decide +kernel
theorem dX5_stepOn_22 : decode cX5_stepOn 22 = .ok (.iadd, 1) := by decide +kernel
theorem dX5_stepOn_23 : decode cX5_stepOn 23 = .ok (.iaload, 1) := by decide +kernel
theorem dX5_stepOn_24 : decode cX5_stepOn 24 = .ok (.iconst 4, 1) := by decide +kernel
theorem dX5_stepOn_25 : decode cX5_stepOn 25 = .ok (.if_icmp .ne 9, 3) := by decide +kernel
theorem dX5_stepOn_28 : decode cX5_stepOn 28 = .ok (.aload_n 1, 1) := by decide +kernel
theorem dX5_stepOn_29 : decode cX5_stepOn 29 = .ok (.iconst 0, 1) := by decide +kernel
theorem dX5_stepOn_30 : decode cX5_stepOn 30 = .ok (.putfield 84, 3) := by decide +kernel
theorem dX5_stepOn_33 : decode cX5_stepOn 33 = .ok (.return_, 1) := by decide +kernel
theorem dX5_stepOn_34 : decode cX5_stepOn 34 = .ok (.aload_n 1, 1) := by decide +kernel
theorem dX5_stepOn_35 : decode cX5_stepOn 35 = .ok (.dup, 1) := by decide +kernel
theorem dX5_stepOn_36 : decode cX5_stepOn 36 = .ok (.getfield 87, 3) := by decide +kernel
theorem dX5_stepOn_39 : decode cX5_stepOn 39 = .ok (.iconst 1, 1) := by decide +kernel
theorem dX5_stepOn_40 : decode cX5_stepOn 40 = .ok (.iadd, 1) := by decide +kernel
theorem dX5_stepOn_41 : decode cX5_stepOn 41 = .ok (.putfield 87, 3) := by decide +kernel
theorem dX5_stepOn_44 : decode cX5_stepOn 44 = .ok (.aload_n 1, 1) := by decide +kernel
theorem dX5_stepOn_45 : decode cX5_stepOn 45 = .ok (.getfield 87, 3) := by decide +kernel
theorem dX5_stepOn_48 : decode cX5_stepOn 48 = .ok (.bipush 30, 2) := by decide +kernel
theorem dX5_stepOn_50 : decode cX5_stepOn 50 = .ok (.if_icmp .ne 10, 3) := by decide +kernel
theorem dX5_stepOn_53 : decode cX5_stepOn 53 = .ok (.aload_n 1, 1) := by decide +kernel
theorem dX5_stepOn_54 : decode cX5_stepOn 54 = .ok (.invokevirtual 113, 3) := by decide +kernel
theorem dX5_stepOn_57 : decode cX5_stepOn 57 = .ok (.goto 32, 3) := by decide +kernel
theorem dX5_stepOn_60 : decode cX5_stepOn 60 = .ok (.aload_n 0, 1) := by decide +kernel
theorem dX5_stepOn_61 : decode cX5_stepOn 61 = .ok (.getfield 15, 3) := by decide +kernel
theorem dX5_stepOn_64 : decode cX5_stepOn 64 = .ok (.aload_n 1, 1) := by decide +kernel
theorem dX5_stepOn_65 : decode cX5_stepOn 65 = .ok (.getfield 87, 3) := by decide +kernel
theorem dX5_stepOn_68 : decode cX5_stepOn 68 = .ok (.iaload, 1) := by decide +kernel
theorem dX5_stepOn_69 : decode cX5_stepOn 69 = .ok (.iconst 3, 1) := by decide +kernel
theorem dX5_stepOn_70 : decode cX5_stepOn 70 = .ok (.if_icmp .ne 19, 3) := by decide +kernel
theorem dX5_stepOn_73 : decode cX5_stepOn 73 = .ok (.aload_n 1, 1) := by decide +kernel
theorem dX5_stepOn_74 : decode cX5_stepOn 74 = .ok (.getfield 84, 3) := by decide +kernel
theorem dX5_stepOn_77 : decode cX5_stepOn 77 = .ok (.aload_n 1, 1) := by decide +kernel
theorem dX5_stepOn_78 : decode cX5_stepOn 78 = .ok (.invokevirtual 116, 3) := by decide +kernel
theorem dX5_stepOn_81 : decode cX5_stepOn 81 = .ok (.if_icmp .le 8, 3) := by decide +kernel
theorem dX5_stepOn_84 : decode cX5_stepOn 84 = .ok (.aload_n 1, 1) := by decide +kernel
theorem dX5_stepOn_85 : decode cX5_stepOn 85 = .ok (.iconst 2, 1) := by decide +kernel
theorem dX5_stepOn_86 : decode cX5_stepOn 86 = .ok (.putfield 66, 3) := by decide +kernel
theorem dX5_stepOn_89 : decode cX5_stepOn 89 = .ok (.return_, 1) := by decide +kernel
theorem dX5_stopThoseThatMeet_0 : decode cX5_stopThoseThatMeet 0 = .ok (.iconst 0, 1) := by decide +kernel
theorem dX5_stopThoseThatMeet_1 : decode cX5_stopThoseThatMeet 1 = .ok (.istore_n 2, 1) := by decide +kernel
theorem dX5_stopThoseThatMeet_2 : decode cX5_stopThoseThatMeet 2 = .ok (.iconst 0, 1) := by decide +kernel
theorem dX5_stopThoseThatMeet_3 : decode cX5_stopThoseThatMeet 3 = .ok (.istore_n 3, 1) := by decide +kernel
theorem dX5_stopThoseThatMeet_4 : decode cX5_stopThoseThatMeet 4 = .ok (.iload_n 3, 1) := by decide +kernel
theorem dX5_stopThoseThatMeet_5 : decode cX5_stopThoseThatMeet 5 = .ok (.aload_n 0, 1) := by decide +kernel
theorem dX5_stopThoseThatMeet_6 : decode cX5_stopThoseThatMeet 6 = .ok (.getfield 27, 3) := by decide +kernel
theorem dX5_stopThoseThatMeet_9 : decode cX5_stopThoseThatMeet 9 = .ok (.if_icmp .ge 86, 3) := by decide +kernel
theorem dX5_stopThoseThatMeet_12 : decode cX5_stopThoseThatMeet 12 = .ok (.aload_n 0, 1) := by decide +kernel
theorem dX5_stopThoseThatMeet_13 : decode cX5_stopThoseThatMeet 13 = .ok (.getfield 20, 3) := by decide +kernel
theorem dX5_stopThoseThatMeet_16 : decode cX5_stopThoseThatMeet 16 = .ok (.iload_n 3, 1) := by decide +kernel
theorem dX5_stopThoseThatMeet_17 : decode cX5_stopThoseThatMeet 17 = .ok (.aaload, 1) := by decide +kernel
theorem dX5_stopThoseThatMeet_18 : decode cX5_stopThoseThatMeet 18 = .ok (.astore 4, 2) := by decide +kernel
theorem dX5_stopThoseThatMeet_20 : decode cX5_stopThoseThatMeet 20 = .ok (.iload_n 1, 1) := by decide +kernel
theorem dX5_stopThoseThatMeet_21 : decode cX5_stopThoseThatMeet 21 = .ok (.iload_n 2, 1) := by decide +kernel
theorem dX5_stopThoseThatMeet_22 : decode cX5_stopThoseThatMeet 22 = .ok (.iconst (-1), 1) := by decide +kernel
theorem dX5_stopThoseThatMeet_23 : decode cX5_stopThoseThatMeet 23 = .ok (.ixor, 1) := by decide +kernel
theorem dX5_stopThoseThatMeet_24 : decode cX5_stopThoseThatMeet 24 = .ok (.iand, 1) := by decide +kernel
theorem dX5_stopThoseThatMeet_25 : decode cX5_stopThoseThatMeet 25 = .ok (.iload_n 3, 1) := by decide +kernel
theorem dX5_stopThoseThatMeet_26 : decode cX5_stopThoseThatMeet 26 = .ok (.invokestatic 62, 3) := by decide +kernel
theorem dX5_stopThoseThatMeet_29 : decode cX5_stopThoseThatMeet 29 = .ok (.ifCond .eq 60, 3) := by decide +kernel
theorem dX5_stopThoseThatMeet_32 : decode cX5_stopThoseThatMeet 32 = .ok (.aload 4, 2) := by decide +kernel
theorem dX5_stopThoseThatMeet_34 : decode cX5_stopThoseThatMeet 34 = .ok (.invokevirtual 119, 3) := by decide +kernel
theorem dX5_stopThoseThatMeet_37 : decode cX5_stopThoseThatMeet 37 = .ok (.ifCond .eq 52, 3) := by decide +kernel
theorem dX5_stopThoseThatMeet_40 : decode cX5_stopThoseThatMeet 40 = .ok (.aload 4, 2) := by decide +kernel
theorem dX5_stopThoseThatMeet_42 : decode cX5_stopThoseThatMeet 42 = .ok (.getfield 87, 3) := by decide +kernel
theorem dX5_stopThoseThatMeet_45 : decode cX5_stopThoseThatMeet 45 = .ok (.ifCond .le 44, 3) := by decide +kernel
theorem dX5_stopThoseThatMeet_48 : decode cX5_stopThoseThatMeet 48 = .ok (.aload 4, 2) := by decide +kernel
theorem dX5_stopThoseThatMeet_50 : decode cX5_stopThoseThatMeet 50 = .ok (.getfield 87, 3) := by decide +kernel
theorem dX5_stopThoseThatMeet_53 : decode cX5_stopThoseThatMeet 53 = .ok (.bipush 30, 2) := by decide +kernel
theorem dX5_stopThoseThatMeet_55 : decode cX5_stopThoseThatMeet 55 = .ok (.if_icmp .ge 34, 3) := by decide +kernel
theorem dX5_stopThoseThatMeet_58 : decode cX5_stopThoseThatMeet 58 = .ok (.aload_n 0, 1) := by decide +kernel
theorem dX5_stopThoseThatMeet_59 : decode cX5_stopThoseThatMeet 59 = .ok (.aload 4, 2) := by decide +kernel
theorem dX5_stopThoseThatMeet_61 : decode cX5_stopThoseThatMeet 61 = .ok (.getfield 87, 3) := by decide +kernel
theorem dX5_stopThoseThatMeet_64 : decode cX5_stopThoseThatMeet 64 = .ok (.invokevirtual 122, 3) := by decide +kernel
theorem dX5_stopThoseThatMeet_67 : decode cX5_stopThoseThatMeet 67 = .ok (.istore 5, 2) := by decide +kernel
theorem dX5_stopThoseThatMeet_69 : decode cX5_stopThoseThatMeet 69 = .ok (.iload 5, 2) := by decide +kernel
theorem dX5_stopThoseThatMeet_71 : decode cX5_stopThoseThatMeet 71 = .ok (.invokestatic 125, 3) := by decide +kernel
theorem dX5_stopThoseThatMeet_74 : decode cX5_stopThoseThatMeet 74 = .ok (.iconst 1, 1) := by decide +kernel
theorem dX5_stopThoseThatMeet_75 : decode cX5_stopThoseThatMeet 75 = .ok (.if_icmp .le 14, 3) := by decide +kernel
theorem dX5_stopThoseThatMeet_78 : decode cX5_stopThoseThatMeet 78 = .ok (.aload_n 0, 1) := by decide +kernel
theorem dX5_stopThoseThatMeet_79 : decode cX5_stopThoseThatMeet 79 = .ok (.iload 5, 2) := by decide +kernel
theorem dX5_stopThoseThatMeet_81 : decode cX5_stopThoseThatMeet 81 = .ok (.invokevirtual 130, 3) := by decide +kernel
theorem dX5_stopThoseThatMeet_84 : decode cX5_stopThoseThatMeet 84 = .ok (.iload_n 2, 1) := by decide +kernel
theorem dX5_stopThoseThatMeet_85 : decode cX5_stopThoseThatMeet 85 = .ok (.iload 5, 2) := by decide +kernel
theorem dX5_stopThoseThatMeet_87 : decode cX5_stopThoseThatMeet 87 = .ok (.ior, 1) := by decide +kernel
theorem dX5_stopThoseThatMeet_88 : decode cX5_stopThoseThatMeet 88 = .ok (.istore_n 2, 1) := by decide +kernel
theorem dX5_stopThoseThatMeet_89 : decode cX5_stopThoseThatMeet 89 = .ok (.iinc 3 1, 3) := by decide +kernel
theorem dX5_stopThoseThatMeet_92 : decode cX5_stopThoseThatMeet 92 = .ok (.goto (-88), 3) := by decide +kernel
theorem dX5_stopThoseThatMeet_95 : decode cX5_stopThoseThatMeet 95 = .ok (.iload_n 2, 1) := by decide +kernel
theorem dX5_stopThoseThatMeet_96 : decode cX5_stopThoseThatMeet 96 = .ok (.invokestatic 125, 3) := by decide +kernel
theorem dX5_stopThoseThatMeet_99 : decode cX5_stopThoseThatMeet 99 = .ok (.ireturn, 1) := by decide +kernel
theorem dX5_stopWithDamage_0 : decode cX5_stopWithDamage 0 = .ok (.iconst 0, 1) := by decide +kernel
theorem dX5_stopWithDamage_1 : decode cX5_stopWithDamage 1 = .ok (.istore_n 2, 1) := by decide +kernel
theorem dX5_stopWithDamage_2 : decode cX5_stopWithDamage 2 = .ok (.iload_n 2, 1) := by decide +kernel
theorem dX5_stopWithDamage_3 : decode cX5_stopWithDamage 3 = .ok (.aload_n 0, 1) := by decide +kernel
theorem dX5_stopWithDamage_4 : decode cX5_stopWithDamage 4 = .ok (.getfield 27, 3) := by decide +kernel
theorem dX5_stopWithDamage_7 : decode cX5_stopWithDamage 7 = .ok (.if_icmp .ge 41, 3) := by decide +kernel
theorem dX5_stopWithDamage_10 : decode cX5_stopWithDamage 10 = .ok (.iload_n 1, 1) := by decide +kernel
theorem dX5_stopWithDamage_11 : decode cX5_stopWithDamage 11 = .ok (.iload_n 2, 1) := by decide +kernel
theorem dX5_stopWithDamage_12 : decode cX5_stopWithDamage 12 = .ok (.invokestatic 62, 3) := by decide +kernel
theorem dX5_stopWithDamage_15 : decode cX5_stopWithDamage 15 = .ok (.ifCond .eq 27, 3) := by decide +kernel
theorem dX5_stopWithDamage_18 : decode cX5_stopWithDamage 18 = .ok (.aload_n 0, 1) := by decide +kernel
theorem dX5_stopWithDamage_19 : decode cX5_stopWithDamage 19 = .ok (.getfield 20, 3) := by decide +kernel
theorem dX5_stopWithDamage_22 : decode cX5_stopWithDamage 22 = .ok (.iload_n 2, 1) := by decide +kernel
theorem dX5_stopWithDamage_23 : decode cX5_stopWithDamage 23 = .ok (.aaload, 1) := by decide +kernel
theorem dX5_stopWithDamage_24 : decode cX5_stopWithDamage 24 = .ok (.invokevirtual 113, 3) := by decide +kernel
theorem dX5_stopWithDamage_27 : decode cX5_stopWithDamage 27 = .ok (.aload_n 0, 1) := by decide +kernel
theorem dX5_stopWithDamage_28 : decode cX5_stopWithDamage 28 = .ok (.getfield 20, 3) := by decide +kernel
theorem dX5_stopWithDamage_31 : decode cX5_stopWithDamage 31 = .ok (.iload_n 2, 1) := by decide +kernel
theorem dX5_stopWithDamage_32 : decode cX5_stopWithDamage 32 = .ok (.aaload, 1) := by decide +kernel
theorem dX5_stopWithDamage_33 : decode cX5_stopWithDamage 33 = .ok (.dup, 1) := by decide +kernel
theorem dX5_stopWithDamage_34 : decode cX5_stopWithDamage 34 = .ok (.getfield 134, 3) := by decide +kernel
theorem dX5_stopWithDamage_37 : decode cX5_stopWithDamage 37 = .ok (.iconst 1, 1) := by decide +kernel
theorem dX5_stopWithDamage_38 : decode cX5_stopWithDamage 38 = .ok (.iadd, 1) := by decide +kernel
theorem dX5_stopWithDamage_39 : decode cX5_stopWithDamage 39 = .ok (.putfield 134, 3) := by decide +kernel
theorem dX5_stopWithDamage_42 : decode cX5_stopWithDamage 42 = .ok (.iinc 2 1, 3) := by decide +kernel
theorem dX5_stopWithDamage_45 : decode cX5_stopWithDamage 45 = .ok (.goto (-43), 3) := by decide +kernel
theorem dX5_stopWithDamage_48 : decode cX5_stopWithDamage 48 = .ok (.return_, 1) := by decide +kernel
theorem dX5_allIn_0 : decode cX5_allIn 0 = .ok (.iconst 0, 1) := by decide +kernel
theorem dX5_allIn_1 : decode cX5_allIn 1 = .ok (.istore_n 2, 1) := by decide +kernel
theorem dX5_allIn_2 : decode cX5_allIn 2 = .ok (.iconst 0, 1) := by decide +kernel
theorem dX5_allIn_3 : decode cX5_allIn 3 = .ok (.istore_n 3, 1) := by decide +kernel
theorem dX5_allIn_4 : decode cX5_allIn 4 = .ok (.iload_n 3, 1) := by decide +kernel
theorem dX5_allIn_5 : decode cX5_allIn 5 = .ok (.aload_n 0, 1) := by decide +kernel
theorem dX5_allIn_6 : decode cX5_allIn 6 = .ok (.getfield 27, 3) := by decide +kernel
theorem dX5_allIn_9 : decode cX5_allIn 9 = .ok (.if_icmp .ge 28, 3) := by decide +kernel
theorem dX5_allIn_12 : decode cX5_allIn 12 = .ok (.aload_n 0, 1) := by decide +kernel
theorem dX5_allIn_13 : decode cX5_allIn 13 = .ok (.getfield 20, 3) := by decide +kernel
theorem dX5_allIn_16 : decode cX5_allIn 16 = .ok (.iload_n 3, 1) := by decide +kernel
theorem dX5_allIn_17 : decode cX5_allIn 17 = .ok (.aaload, 1) := by decide +kernel
theorem dX5_allIn_18 : decode cX5_allIn 18 = .ok (.getfield 66, 3) := by decide +kernel
theorem dX5_allIn_21 : decode cX5_allIn 21 = .ok (.iload_n 1, 1) := by decide +kernel
theorem dX5_allIn_22 : decode cX5_allIn 22 = .ok (.if_icmp .ne 9, 3) := by decide +kernel
theorem dX5_allIn_25 : decode cX5_allIn 25 = .ok (.iload_n 2, 1) := by decide +kernel
theorem dX5_allIn_26 : decode cX5_allIn 26 = .ok (.iconst 1, 1) := by decide +kernel
theorem dX5_allIn_27 : decode cX5_allIn 27 = .ok (.iload_n 3, 1) := by decide +kernel
theorem dX5_allIn_28 : decode cX5_allIn 28 = .ok (.ishl, 1) := by decide +kernel
theorem dX5_allIn_29 : decode cX5_allIn 29 = .ok (.ior, 1) := by decide +kernel
theorem dX5_allIn_30 : decode cX5_allIn 30 = .ok (.istore_n 2, 1) := by decide +kernel
theorem dX5_allIn_31 : decode cX5_allIn 31 = .ok (.iinc 3 1, 3) := by decide +kernel
theorem dX5_allIn_34 : decode cX5_allIn 34 = .ok (.goto (-30), 3) := by decide +kernel
theorem dX5_allIn_37 : decode cX5_allIn 37 = .ok (.iload_n 2, 1) := by decide +kernel
theorem dX5_allIn_38 : decode cX5_allIn 38 = .ok (.ireturn, 1) := by decide +kernel
theorem dX5_allOn_0 : decode cX5_allOn 0 = .ok (.iconst 0, 1) := by decide +kernel
theorem dX5_allOn_1 : decode cX5_allOn 1 = .ok (.istore_n 2, 1) := by decide +kernel
theorem dX5_allOn_2 : decode cX5_allOn 2 = .ok (.iconst 0, 1) := by decide +kernel
theorem dX5_allOn_3 : decode cX5_allOn 3 = .ok (.istore_n 3, 1) := by decide +kernel
theorem dX5_allOn_4 : decode cX5_allOn 4 = .ok (.iload_n 3, 1) := by decide +kernel
theorem dX5_allOn_5 : decode cX5_allOn 5 = .ok (.aload_n 0, 1) := by decide +kernel
theorem dX5_allOn_6 : decode cX5_allOn 6 = .ok (.getfield 27, 3) := by decide +kernel
theorem dX5_allOn_9 : decode cX5_allOn 9 = .ok (.if_icmp .ge 40, 3) := by decide +kernel
theorem dX5_allOn_12 : decode cX5_allOn 12 = .ok (.aload_n 0, 1) := by decide +kernel
theorem dX5_allOn_13 : decode cX5_allOn 13 = .ok (.getfield 20, 3) := by decide +kernel
theorem dX5_allOn_16 : decode cX5_allOn 16 = .ok (.iload_n 3, 1) := by decide +kernel
theorem dX5_allOn_17 : decode cX5_allOn 17 = .ok (.aaload, 1) := by decide +kernel
theorem dX5_allOn_18 : decode cX5_allOn 18 = .ok (.getfield 87, 3) := by decide +kernel
theorem dX5_allOn_21 : decode cX5_allOn 21 = .ok (.iload_n 1, 1) := by decide +kernel
theorem dX5_allOn_22 : decode cX5_allOn 22 = .ok (.if_icmp .ne 21, 3) := by decide +kernel
theorem dX5_allOn_25 : decode cX5_allOn 25 = .ok (.aload_n 0, 1) := by decide +kernel
theorem dX5_allOn_26 : decode cX5_allOn 26 = .ok (.getfield 20, 3) := by decide +kernel
theorem dX5_allOn_29 : decode cX5_allOn 29 = .ok (.iload_n 3, 1) := by decide +kernel
theorem dX5_allOn_30 : decode cX5_allOn 30 = .ok (.aaload, 1) := by decide +kernel
theorem dX5_allOn_31 : decode cX5_allOn 31 = .ok (.invokevirtual 119, 3) := by decide +kernel
theorem dX5_allOn_34 : decode cX5_allOn 34 = .ok (.ifCond .eq 9, 3) := by decide +kernel
theorem dX5_allOn_37 : decode cX5_allOn 37 = .ok (.iload_n 2, 1) := by decide +kernel
theorem dX5_allOn_38 : decode cX5_allOn 38 = .ok (.iconst 1, 1) := by decide +kernel
theorem dX5_allOn_39 : decode cX5_allOn 39 = .ok (.iload_n 3, 1) := by decide +kernel
theorem dX5_allOn_40 : decode cX5_allOn 40 = .ok (.ishl, 1) := by decide +kernel
theorem dX5_allOn_41 : decode cX5_allOn 41 = .ok (.ior, 1) := by decide +kernel
theorem dX5_allOn_42 : decode cX5_allOn 42 = .ok (.istore_n 2, 1) := by decide +kernel
theorem dX5_allOn_43 : decode cX5_allOn 43 = .ok (.iinc 3 1, 3) := by decide +kernel
theorem dX5_allOn_46 : decode cX5_allOn 46 = .ok (.goto (-42), 3) := by decide +kernel
theorem dX5_allOn_49 : decode cX5_allOn 49 = .ok (.iload_n 2, 1) := by decide +kernel
theorem dX5_allOn_50 : decode cX5_allOn 50 = .ok (.ireturn, 1) := by decide +kernel
theorem dX5_restingOnFoot_0 : decode cX5_restingOnFoot 0 = .ok (.aload_n 0, 1) := by decide +kernel
theorem dX5_restingOnFoot_1 : decode cX5_restingOnFoot 1 = .ok (.iconst 0, 1) := by decide +kernel
theorem dX5_restingOnFoot_2 : decode cX5_restingOnFoot 2 = .ok (.invokevirtual 73, 3) := by decide +kernel
theorem dX5_restingOnFoot_5 : decode cX5_restingOnFoot 5 = .ok (.aload_n 0, 1) := by decide +kernel
theorem dX5_restingOnFoot_6 : decode cX5_restingOnFoot 6 = .ok (.bipush 30, 2) := by decide +kernel
theorem dX5_restingOnFoot_8 : decode cX5_restingOnFoot 8 = .ok (.invokevirtual 122, 3) := by decide +kernel
theorem dX5_restingOnFoot_11 : decode cX5_restingOnFoot 11 = .ok (.iand, 1) := by decide +kernel
theorem dX5_restingOnFoot_12 : decode cX5_restingOnFoot 12 = .ok (.ireturn, 1) := by decide +kernel
theorem dX5_damageOfAll_0 : decode cX5_damageOfAll 0 = .ok (.iconst 0, 1) := by decide +kernel
theorem dX5_damageOfAll_1 : decode cX5_damageOfAll 1 = .ok (.istore_n 1, 1) := by decide +kernel
theorem dX5_damageOfAll_2 : decode cX5_damageOfAll 2 = .ok (.iconst 0, 1) := by decide +kernel
theorem dX5_damageOfAll_3 : decode cX5_damageOfAll 3 = .ok (.istore_n 2, 1) := by decide +kernel
theorem dX5_damageOfAll_4 : decode cX5_damageOfAll 4 = .ok (.iload_n 2, 1) := by decide +kernel
theorem dX5_damageOfAll_5 : decode cX5_damageOfAll 5 = .ok (.aload_n 0, 1) := by decide +kernel
theorem dX5_damageOfAll_6 : decode cX5_damageOfAll 6 = .ok (.getfield 27, 3) := by decide +kernel
theorem dX5_damageOfAll_9 : decode cX5_damageOfAll 9 = .ok (.if_icmp .ge 21, 3) := by decide +kernel
theorem dX5_damageOfAll_12 : decode cX5_damageOfAll 12 = .ok (.iload_n 1, 1) := by decide +kernel
theorem dX5_damageOfAll_13 : decode cX5_damageOfAll 13 = .ok (.aload_n 0, 1) := by decide +kernel
theorem dX5_damageOfAll_14 : decode cX5_damageOfAll 14 = .ok (.getfield 20, 3) := by decide +kernel
theorem dX5_damageOfAll_17 : decode cX5_damageOfAll 17 = .ok (.iload_n 2, 1) := by decide +kernel
theorem dX5_damageOfAll_18 : decode cX5_damageOfAll 18 = .ok (.aaload, 1) := by decide +kernel
theorem dX5_damageOfAll_19 : decode cX5_damageOfAll 19 = .ok (.getfield 134, 3) := by decide +kernel
theorem dX5_damageOfAll_22 : decode cX5_damageOfAll 22 = .ok (.iadd, 1) := by decide +kernel
theorem dX5_damageOfAll_23 : decode cX5_damageOfAll 23 = .ok (.istore_n 1, 1) := by decide +kernel
theorem dX5_damageOfAll_24 : decode cX5_damageOfAll 24 = .ok (.iinc 2 1, 3) := by decide +kernel
theorem dX5_damageOfAll_27 : decode cX5_damageOfAll 27 = .ok (.goto (-23), 3) := by decide +kernel
theorem dX5_damageOfAll_30 : decode cX5_damageOfAll 30 = .ok (.iload_n 1, 1) := by decide +kernel
theorem dX5_damageOfAll_31 : decode cX5_damageOfAll 31 = .ok (.ireturn, 1) := by decide +kernel
theorem dX5_weightOfAll_0 : decode cX5_weightOfAll 0 = .ok (.iconst 0, 1) := by decide +kernel
theorem dX5_weightOfAll_1 : decode cX5_weightOfAll 1 = .ok (.istore_n 1, 1) := by decide +kernel
theorem dX5_weightOfAll_2 : decode cX5_weightOfAll 2 = .ok (.iconst 0, 1) := by decide +kernel
theorem dX5_weightOfAll_3 : decode cX5_weightOfAll 3 = .ok (.istore_n 2, 1) := by decide +kernel
theorem dX5_weightOfAll_4 : decode cX5_weightOfAll 4 = .ok (.iload_n 2, 1) := by decide +kernel
theorem dX5_weightOfAll_5 : decode cX5_weightOfAll 5 = .ok (.aload_n 0, 1) := by decide +kernel
theorem dX5_weightOfAll_6 : decode cX5_weightOfAll 6 = .ok (.getfield 27, 3) := by decide +kernel
theorem dX5_weightOfAll_9 : decode cX5_weightOfAll 9 = .ok (.if_icmp .ge 21, 3) := by decide +kernel
theorem dX5_weightOfAll_12 : decode cX5_weightOfAll 12 = .ok (.iload_n 1, 1) := by decide +kernel
theorem dX5_weightOfAll_13 : decode cX5_weightOfAll 13 = .ok (.aload_n 0, 1) := by decide +kernel
theorem dX5_weightOfAll_14 : decode cX5_weightOfAll 14 = .ok (.getfield 20, 3) := by decide +kernel
theorem dX5_weightOfAll_17 : decode cX5_weightOfAll 17 = .ok (.iload_n 2, 1) := by decide +kernel
theorem dX5_weightOfAll_18 : decode cX5_weightOfAll 18 = .ok (.aaload, 1) := by decide +kernel
theorem dX5_weightOfAll_19 : decode cX5_weightOfAll 19 = .ok (.getfield 137, 3) := by decide +kernel
theorem dX5_weightOfAll_22 : decode cX5_weightOfAll 22 = .ok (.iadd, 1) := by decide +kernel
theorem dX5_weightOfAll_23 : decode cX5_weightOfAll 23 = .ok (.istore_n 1, 1) := by decide +kernel
theorem dX5_weightOfAll_24 : decode cX5_weightOfAll 24 = .ok (.iinc 2 1, 3) := by decide +kernel
theorem dX5_weightOfAll_27 : decode cX5_weightOfAll 27 = .ok (.goto (-23), 3) := by decide +kernel
theorem dX5_weightOfAll_30 : decode cX5_weightOfAll 30 = .ok (.iload_n 1, 1) := by decide +kernel
theorem dX5_weightOfAll_31 : decode cX5_weightOfAll 31 = .ok (.ireturn, 1) := by decide +kernel
theorem dX5_heaviest_0 : decode cX5_heaviest 0 = .ok (.iconst 0, 1) := by decide +kernel
theorem dX5_heaviest_1 : decode cX5_heaviest 1 = .ok (.istore_n 2, 1) := by decide +kernel
theorem dX5_heaviest_2 : decode cX5_heaviest 2 = .ok (.iconst 0, 1) := by decide +kernel
theorem dX5_heaviest_3 : decode cX5_heaviest 3 = .ok (.istore_n 3, 1) := by decide +kernel
theorem dX5_heaviest_4 : decode cX5_heaviest 4 = .ok (.iload_n 3, 1) := by decide +kernel
theorem dX5_heaviest_5 : decode cX5_heaviest 5 = .ok (.aload_n 0, 1) := by decide +kernel
theorem dX5_heaviest_6 : decode cX5_heaviest 6 = .ok (.getfield 27, 3) := by decide +kernel
theorem dX5_heaviest_9 : decode cX5_heaviest 9 = .ok (.if_icmp .ge 31, 3) := by decide +kernel
theorem dX5_heaviest_12 : decode cX5_heaviest 12 = .ok (.iload_n 1, 1) := by decide +kernel
theorem dX5_heaviest_13 : decode cX5_heaviest 13 = .ok (.iload_n 3, 1) := by decide +kernel
theorem dX5_heaviest_14 : decode cX5_heaviest 14 = .ok (.invokestatic 62, 3) := by decide +kernel
theorem dX5_heaviest_17 : decode cX5_heaviest 17 = .ok (.ifCond .eq 17, 3) := by decide +kernel
theorem dX5_heaviest_20 : decode cX5_heaviest 20 = .ok (.iload_n 2, 1) := by decide +kernel
theorem dX5_heaviest_21 : decode cX5_heaviest 21 = .ok (.aload_n 0, 1) := by decide +kernel
theorem dX5_heaviest_22 : decode cX5_heaviest 22 = .ok (.getfield 20, 3) := by decide +kernel
theorem dX5_heaviest_25 : decode cX5_heaviest 25 = .ok (.iload_n 3, 1) := by decide +kernel
theorem dX5_heaviest_26 : decode cX5_heaviest 26 = .ok (.aaload, 1) := by decide +kernel
theorem dX5_heaviest_27 : decode cX5_heaviest 27 = .ok (.getfield 137, 3) := by decide +kernel
theorem dX5_heaviest_30 : decode cX5_heaviest 30 = .ok (.invokestatic 102, 3) := by decide +kernel
theorem dX5_heaviest_33 : decode cX5_heaviest 33 = .ok (.istore_n 2, 1) := by decide +kernel
theorem dX5_heaviest_34 : decode cX5_heaviest 34 = .ok (.iinc 3 1, 3) := by decide +kernel
theorem dX5_heaviest_37 : decode cX5_heaviest 37 = .ok (.goto (-33), 3) := by decide +kernel
theorem dX5_heaviest_40 : decode cX5_heaviest 40 = .ok (.iload_n 2, 1) := by decide +kernel
theorem dX5_heaviest_41 : decode cX5_heaviest 41 = .ok (.ireturn, 1) := by decide +kernel
theorem dX5_cellsOfStone_0 : decode cX5_cellsOfStone 0 = .ok (.iconst 0, 1) := by decide +kernel
theorem dX5_cellsOfStone_1 : decode cX5_cellsOfStone 1 = .ok (.istore_n 1, 1) := by decide +kernel
theorem dX5_cellsOfStone_2 : decode cX5_cellsOfStone 2 = .ok (.iconst 0, 1) := by decide +kernel
theorem dX5_cellsOfStone_3 : decode cX5_cellsOfStone 3 = .ok (.istore_n 2, 1) := by decide +kernel
theorem dX5_cellsOfStone_4 : decode cX5_cellsOfStone 4 = .ok (.iload_n 2, 1) := by decide +kernel
theorem dX5_cellsOfStone_5 : decode cX5_cellsOfStone 5 = .ok (.bipush 31, 2) := by decide +kernel
theorem dX5_cellsOfStone_7 : decode cX5_cellsOfStone 7 = .ok (.if_icmp .ge 26, 3) := by decide +kernel
theorem dX5_cellsOfStone_10 : decode cX5_cellsOfStone 10 = .ok (.iload_n 1, 1) := by decide +kernel
theorem dX5_cellsOfStone_11 : decode cX5_cellsOfStone 11 = .ok (.aload_n 0, 1) := by decide +kernel
theorem dX5_cellsOfStone_12 : decode cX5_cellsOfStone 12 = .ok (.getfield 15, 3) := by decide +kernel
theorem dX5_cellsOfStone_15 : decode cX5_cellsOfStone 15 = .ok (.iload_n 2, 1) := by decide +kernel
theorem dX5_cellsOfStone_16 : decode cX5_cellsOfStone 16 = .ok (.iaload, 1) := by decide +kernel
theorem dX5_cellsOfStone_17 : decode cX5_cellsOfStone 17 = .ok (.ifCond .ne 7, 3) := by decide +kernel
theorem dX5_cellsOfStone_20 : decode cX5_cellsOfStone 20 = .ok (.iconst 1, 1) := by decide +kernel
theorem dX5_cellsOfStone_21 : decode cX5_cellsOfStone 21 = .ok (.goto 4, 3) := by decide +kernel
theorem dX5_cellsOfStone_24 : decode cX5_cellsOfStone 24 = .ok (.iconst 0, 1) := by decide +kernel
theorem dX5_cellsOfStone_25 : decode cX5_cellsOfStone 25 = .ok (.iadd, 1) := by decide +kernel
theorem dX5_cellsOfStone_26 : decode cX5_cellsOfStone 26 = .ok (.istore_n 1, 1) := by decide +kernel
theorem dX5_cellsOfStone_27 : decode cX5_cellsOfStone 27 = .ok (.iinc 2 1, 3) := by decide +kernel
theorem dX5_cellsOfStone_30 : decode cX5_cellsOfStone 30 = .ok (.goto (-26), 3) := by decide +kernel
theorem dX5_cellsOfStone_33 : decode cX5_cellsOfStone 33 = .ok (.iload_n 1, 1) := by decide +kernel
theorem dX5_cellsOfStone_34 : decode cX5_cellsOfStone 34 = .ok (.ireturn, 1) := by decide +kernel
theorem dX5_spotsInUse_0 : decode cX5_spotsInUse 0 = .ok (.iconst 0, 1) := by decide +kernel
theorem dX5_spotsInUse_1 : decode cX5_spotsInUse 1 = .ok (.istore_n 1, 1) := by decide +kernel
theorem dX5_spotsInUse_2 : decode cX5_spotsInUse 2 = .ok (.iconst 0, 1) := by decide +kernel
theorem dX5_spotsInUse_3 : decode cX5_spotsInUse 3 = .ok (.istore_n 2, 1) := by decide +kernel
theorem dX5_spotsInUse_4 : decode cX5_spotsInUse 4 = .ok (.iload_n 2, 1) := by decide +kernel
theorem dX5_spotsInUse_5 : decode cX5_spotsInUse 5 = .ok (.bipush 10, 2) := by decide +kernel
theorem dX5_spotsInUse_7 : decode cX5_spotsInUse 7 = .ok (.if_icmp .ge 26, 3) := by decide +kernel
theorem dX5_spotsInUse_10 : decode cX5_spotsInUse 10 = .ok (.iload_n 1, 1) := by decide +kernel
theorem dX5_spotsInUse_11 : decode cX5_spotsInUse 11 = .ok (.aload_n 0, 1) := by decide +kernel
theorem dX5_spotsInUse_12 : decode cX5_spotsInUse 12 = .ok (.getfield 24, 3) := by decide +kernel
theorem dX5_spotsInUse_15 : decode cX5_spotsInUse 15 = .ok (.iload_n 2, 1) := by decide +kernel
theorem dX5_spotsInUse_16 : decode cX5_spotsInUse 16 = .ok (.iaload, 1) := by decide +kernel
theorem dX5_spotsInUse_17 : decode cX5_spotsInUse 17 = .ok (.ifCond .lt 7, 3) := by decide +kernel
theorem dX5_spotsInUse_20 : decode cX5_spotsInUse 20 = .ok (.iconst 1, 1) := by decide +kernel
theorem dX5_spotsInUse_21 : decode cX5_spotsInUse 21 = .ok (.goto 4, 3) := by decide +kernel
theorem dX5_spotsInUse_24 : decode cX5_spotsInUse 24 = .ok (.iconst 0, 1) := by decide +kernel
theorem dX5_spotsInUse_25 : decode cX5_spotsInUse 25 = .ok (.iadd, 1) := by decide +kernel
theorem dX5_spotsInUse_26 : decode cX5_spotsInUse 26 = .ok (.istore_n 1, 1) := by decide +kernel
theorem dX5_spotsInUse_27 : decode cX5_spotsInUse 27 = .ok (.iinc 2 1, 3) := by decide +kernel
theorem dX5_spotsInUse_30 : decode cX5_spotsInUse 30 = .ok (.goto (-26), 3) := by decide +kernel
theorem dX5_spotsInUse_33 : decode cX5_spotsInUse 33 = .ok (.iload_n 1, 1) := by decide +kernel
theorem dX5_spotsInUse_34 : decode cX5_spotsInUse 34 = .ok (.ireturn, 1) := by decide +kernel
theorem dX5_draw_0 : decode cX5_draw 0 = .ok (.aload_n 0, 1) := by decide +kernel
theorem dX5_draw_1 : decode cX5_draw 1 = .ok (.aload_n 0, 1) := by decide +kernel
theorem dX5_draw_2 : decode cX5_draw 2 = .ok (.getfield 40, 3) := by decide +kernel
theorem dX5_draw_5 : decode cX5_draw 5 = .ok (.ldc 140, 2) := by decide +kernel
theorem dX5_draw_7 : decode cX5_draw 7 = .ok (.imul, 1) := by decide +kernel
theorem dX5_draw_8 : decode cX5_draw 8 = .ok (.sipush 12345, 3) := by decide +kernel
theorem dX5_draw_11 : decode cX5_draw 11 = .ok (.iadd, 1) := by decide +kernel
theorem dX5_draw_12 : decode cX5_draw 12 = .ok (.putfield 40, 3) := by decide +kernel
theorem dX5_draw_15 : decode cX5_draw 15 = .ok (.aload_n 0, 1) := by decide +kernel
theorem dX5_draw_16 : decode cX5_draw 16 = .ok (.getfield 40, 3) := by decide +kernel
theorem dX5_draw_19 : decode cX5_draw 19 = .ok (.bipush 8, 2) := by decide +kernel
theorem dX5_draw_21 : decode cX5_draw 21 = .ok (.iushr, 1) := by decide +kernel
theorem dX5_draw_22 : decode cX5_draw 22 = .ok (.ireturn, 1) := by decide +kernel
