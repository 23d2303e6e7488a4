theorem dX6_init_0 : decode cX6_init 0 = .ok (.aload_n 0, 1) := by decide +kernel
theorem dX6_init_1 : decode cX6_init 1 = .ok (.invokespecial 3, 3) := by decide +kernel
theorem dX6_init_4 : decode cX6_init 4 = .ok (.aload_n 0, 1) := by decide +kernel
theorem dX6_init_5 : decode cX6_init 5 = .ok (.new 9, 3) := by decide +kernel
theorem dX6_init_8 : decode cX6_init 8 = .ok (.dup, 1) := by decide +kernel
theorem dX6_init_9 : decode cX6_init 9 = .ok (.invokespecial 11, 3) := by decide +kernel
theorem dX6_init_12 : decode cX6_init 12 = .ok (.putfield 12, 3) := by decide +kernel
theorem dX6_init_15 : decode cX6_init 15 = .ok (.aload_n 0, 1) := by decide +kernel
theorem dX6_init_16 : decode cX6_init 16 = .ok (.new 9, 3) := by decide +kernel
theorem dX6_init_19 : decode cX6_init 19 = .ok (.dup, 1) := by decide +kernel
theorem dX6_init_20 : decode cX6_init 20 = .ok (.invokespecial 11, 3) := by decide +kernel
theorem dX6_init_23 : decode cX6_init 23 = .ok (.putfield 16, 3) := by decide +kernel
theorem dX6_init_26 : decode cX6_init 26 = .ok (.aload_n 0, 1) := by decide +kernel
theorem dX6_init_27 : decode cX6_init 27 = .ok (.iconst 0, 1) := by decide +kernel
theorem dX6_init_28 : decode cX6_init 28 = .ok (.putfield 19, 3) := by decide +kernel
theorem dX6_init_31 : decode cX6_init 31 = .ok (.aload_n 0, 1) := by decide +kernel
theorem dX6_init_32 : decode cX6_init 32 = .ok (.new 9, 3) := by decide +kernel
theorem dX6_init_35 : decode cX6_init 35 = .ok (.dup, 1) := by decide +kernel
theorem dX6_init_36 : decode cX6_init 36 = .ok (.invokespecial 11, 3) := by decide +kernel
theorem dX6_init_39 : decode cX6_init 39 = .ok (.putfield 23, 3) := by decide +kernel
theorem dX6_init_42 : decode cX6_init 42 = .ok (.aload_n 0, 1) := by decide +kernel
theorem dX6_init_43 : decode cX6_init 43 = .ok (.new 9, 3) := by decide +kernel
theorem dX6_init_46 : decode cX6_init 46 = .ok (.dup, 1) := by decide +kernel
theorem dX6_init_47 : decode cX6_init 47 = .ok (.invokespecial 11, 3) := by decide +kernel
theorem dX6_init_50 : decode cX6_init 50 = .ok (.putfield 26, 3) := by decide +kernel
theorem dX6_init_53 : decode cX6_init 53 = .ok (.aload_n 0, 1) := by decide +kernel
theorem dX6_init_54 : decode cX6_init 54 = .ok (.new 29, 3) := by decide +kernel
theorem dX6_init_57 : decode cX6_init 57 = .ok (.dup, 1) := by decide +kernel
theorem dX6_init_58 : decode cX6_init 58 = .ok (.invokespecial 31, 3) := by decide +kernel
theorem dX6_init_61 : decode cX6_init 61 = .ok (.putfield 32, 3) := by decide +kernel
theorem dX6_init_64 : decode cX6_init 64 = .ok (.aload_n 0, 1) := by decide +kernel
theorem dX6_init_65 : decode cX6_init 65 = .ok (.new 36, 3) := by decide +kernel
theorem dX6_init_68 : decode cX6_init 68 = .ok (.dup, 1) := by decide +kernel
theorem dX6_init_69 : decode cX6_init 69 = .ok (.invokespecial 38, 3) := by decide +kernel
theorem dX6_init_72 : decode cX6_init 72 = .ok (.putfield 39, 3) := by decide +kernel
theorem dX6_init_75 : decode cX6_init 75 = .ok (.aload_n 0, 1) := by decide +kernel
theorem dX6_init_76 : decode cX6_init 76 = .ok (.bipush 10, 2) := by decide +kernel
theorem dX6_init_78 : decode cX6_init 78 = .ok (.newarray .int, 2) := by decide +kernel
theorem dX6_init_80 : decode cX6_init 80 = .ok (.putfield 43, 3) := by decide +kernel
theorem dX6_init_83 : decode cX6_init 83 = .ok (.aload_n 0, 1) := by decide +kernel
theorem dX6_init_84 : decode cX6_init 84 = .ok (.new 47, 3) := by decide +kernel
theorem dX6_init_87 : decode cX6_init 87 = .ok (.dup, 1) := by decide +kernel
theorem dX6_init_88 : decode cX6_init 88 = .ok (.invokespecial 49, 3) := by decide +kernel
theorem dX6_init_91 : decode cX6_init 91 = .ok (.putfield 50, 3) := by decide +kernel
theorem dX6_init_94 : decode cX6_init 94 = .ok (.aload_n 0, 1) := by decide +kernel
theorem dX6_init_95 : decode cX6_init 95 = .ok (.iconst 4, 1) := by decide +kernel
theorem dX6_init_96 : decode cX6_init 96 = .ok (.anewarray 54, 3) := by decide +kernel
theorem dX6_init_99 : decode cX6_init 99 = .ok (.putfield 56, 3) := by decide +kernel
theorem dX6_init_102 : decode cX6_init 102 = .ok (.aload_n 0, 1) := by decide +kernel
theorem dX6_init_103 : decode cX6_init 103 = .ok (.bipush 7, 2) := by decide +kernel
theorem dX6_init_105 : decode cX6_init 105 = .ok (.newarray .int, 2) := by decide +kernel
theorem dX6_init_107 : decode cX6_init 107 = .ok (.putfield 60, 3) := by decide +kernel
theorem dX6_init_110 : decode cX6_init 110 = .ok (.iconst 0, 1) := by decide +kernel
theorem dX6_init_111 : decode cX6_init 111 = .ok (.istore_n 1, 1) := by decide +kernel
theorem dX6_init_112 : decode cX6_init 112 = .ok (.iload_n 1, 1) := by decide +kernel
theorem dX6_init_113 : decode cX6_init 113 = .ok (.iconst 4, 1) := by decide +kernel
theorem dX6_init_114 : decode cX6_init 114 = .ok (.if_icmp .ge 22, 3) := by decide +kernel
theorem dX6_init_117 : decode cX6_init 117 = .ok (.aload_n 0, 1) := by decide +kernel
theorem dX6_init_118 : decode cX6_init 118 = .ok (.getfield 56, 3) := by decide +kernel
theorem dX6_init_121 : decode cX6_init 121 = .ok (.iload_n 1, 1) := by decide +kernel
theorem dX6_init_122 : decode cX6_init 122 = .ok (.new 54, 3) := by decide +kernel
theorem dX6_init_125 : decode cX6_init 125 = .ok (.dup, 1) := by decide +kernel
theorem dX6_init_126 : decode cX6_init 126 = .ok (.invokespecial 63, 3) := by decide +kernel
theorem dX6_init_129 : decode cX6_init 129 = .ok (.aastore, 1) := by decide +kernel
theorem dX6_init_130 : decode cX6_init 130 = .ok (.iinc 1 1, 3) := by decide +kernel
theorem dX6_init_133 : decode cX6_init 133 = .ok (.goto (-21), 3) := by decide +kernel
theorem dX6_init_136 : decode cX6_init 136 = .ok (.return_, 1) := by decide +kernel
theorem dX6_fall_0 : decode cX6_fall 0 = .ok (.iload_n 1, 1) := by decide +kernel
theorem dX6_fall_1 : decode cX6_fall 1 = .ok (.invokestatic 64, 3) := by decide +kernel
theorem dX6_fall_4 : decode cX6_fall 4 = .ok (.ifCond .eq 10, 3) := by decide +kernel
theorem dX6_fall_7 : decode cX6_fall 7 = .ok (.iload_n 2, 1) := by decide +kernel
theorem dX6_fall_8 : decode cX6_fall 8 = .ok (.invokestatic 68, 3) := by decide +kernel
theorem dX6_fall_11 : decode cX6_fall 11 = .ok (.ifCond .ne 10, 3) := by decide +kernel
theorem dX6_fall_14 : decode cX6_fall 14 = .ok (.aload_n 0, 1) := by decide +kernel
theorem dX6_fall_15 : decode cX6_fall 15 = .ok (.ldc 71, 2) := by decide +kernel
theorem dX6_fall_17 : decode cX6_fall 17 = .ok (.invokevirtual 72, 3) := by decide +kernel
theorem dX6_fall_20 : decode cX6_fall 20 = .ok (.ireturn, 1) := by decide +kernel
theorem dX6_fall_21 : decode cX6_fall 21 = .ok (.aload_n 0, 1) := by decide +kernel
theorem dX6_fall_22 : decode cX6_fall 22 = .ok (.getfield 12, 3) := by decide +kernel
theorem dX6_fall_25 : decode cX6_fall 25 = .ok (.getfield 76, 3) := by decide +kernel
theorem dX6_fall_28 : decode cX6_fall 28 = .ok (.iload_n 1, 1) := by decide +kernel
theorem dX6_fall_29 : decode cX6_fall 29 = .ok (.iaload, 1) := by decide +kernel
theorem dX6_fall_30 : decode cX6_fall 30 = .ok (.istore_n 3, 1) := by decide +kernel
theorem dX6_fall_31 : decode cX6_fall 31 = .ok (.aload_n 0, 1) := by decide +kernel
theorem dX6_fall_32 : decode cX6_fall 32 = .ok (.getfield 12, 3) := by decide +kernel
theorem dX6_fall_35 : decode cX6_fall 35 = .ok (.getfield 76, 3) := by decide +kernel
theorem dX6_fall_38 : decode cX6_fall 38 = .ok (.iload_n 1, 1) := by decide +kernel
theorem dX6_fall_39 : decode cX6_fall 39 = .ok (.iload_n 2, 1) := by decide +kernel
theorem dX6_fall_40 : decode cX6_fall 40 = .ok (.iastore, 1) := by decide +kernel
theorem dX6_fall_41 : decode cX6_fall 41 = .ok (.iload_n 3, 1) := by decide +kernel
theorem dX6_fall_42 : decode cX6_fall 42 = .ok (.ireturn, 1) := by decide +kernel
theorem dX6_ground_0 : decode cX6_ground 0 = .ok (.iload_n 1, 1) := by decide +kernel
theorem dX6_ground_1 : decode cX6_ground 1 = .ok (.invokestatic 64, 3) := by decide +kernel
theorem dX6_ground_4 : decode cX6_ground 4 = .ok (.ifCond .eq 12, 3) := by decide +kernel
theorem dX6_ground_7 : decode cX6_ground 7 = .ok (.iload_n 2, 1) := by decide +kernel
theorem dX6_ground_8 : decode cX6_ground 8 = .ok (.iconst 0, 1) := by decide +kernel
theorem dX6_ground_9 : decode cX6_ground 9 = .ok (.iconst 4, 1) := by decide +kernel
theorem dX6_ground_10 : decode cX6_ground 10 = .ok (.invokestatic 79, 3) := by decide +kernel
theorem dX6_ground_13 : decode cX6_ground 13 = .ok (.ifCond .ne 10, 3) := by decide +kernel
theorem dX6_ground_16 : decode cX6_ground 16 = .ok (.aload_n 0, 1) := by decide +kernel
theorem dX6_ground_17 : decode cX6_ground 17 = .ok (.ldc 71, 2) := by decide +kernel
theorem dX6_ground_19 : decode cX6_ground 19 = .ok (.invokevirtual 72, 3) := by decide +kernel
theorem dX6_ground_22 : decode cX6_ground 22 = .ok (.ireturn, 1) := by decide +kernel
theorem dX6_ground_23 : decode cX6_ground 23 = .ok (.aload_n 0, 1) := by decide +kernel
theorem dX6_ground_24 : decode cX6_ground 24 = .ok (.getfield 12, 3) := by decide +kernel
theorem dX6_ground_27 : decode cX6_ground 27 = .ok (.getfield 83, 3) := by decide +kernel
theorem dX6_ground_30 : decode cX6_ground 30 = .ok (.iload_n 1, 1) := by decide +kernel
theorem dX6_ground_31 : decode cX6_ground 31 = .ok (.iaload, 1) := by decide +kernel
theorem dX6_ground_32 : decode cX6_ground 32 = .ok (.istore_n 3, 1) := by decide +kernel
theorem dX6_ground_33 : decode cX6_ground 33 = .ok (.aload_n 0, 1) := by decide +kernel
theorem dX6_ground_34 : decode cX6_ground 34 = .ok (.getfield 12, 3) := by decide +kernel
theorem dX6_ground_37 : decode cX6_ground 37 = .ok (.getfield 83, 3) := by decide +kernel
theorem dX6_ground_40 : decode cX6_ground 40 = .ok (.iload_n 1, 1) := by decide +kernel
theorem dX6_ground_41 : decode cX6_ground 41 = .ok (.iload_n 2, 1) := by decide +kernel
theorem dX6_ground_42 : decode cX6_ground 42 = .ok (.iastore, 1) := by decide +kernel
theorem dX6_ground_43 : decode cX6_ground 43 = .ok (.iload_n 3, 1) := by decide +kernel
theorem dX6_ground_44 : decode cX6_ground 44 = .ok (.ireturn, 1) := by decide +kernel
theorem dX6_gate_0 : decode cX6_gate 0 = .ok (.iload_n 1, 1) := by decide +kernel
theorem dX6_gate_1 : decode cX6_gate 1 = .ok (.iconst 0, 1) := by decide +kernel
theorem dX6_gate_2 : decode cX6_gate 2 = .ok (.iconst 1, 1) := by decide +kernel
theorem dX6_gate_3 : decode cX6_gate 3 = .ok (.invokestatic 79, 3) := by decide +kernel
theorem dX6_gate_6 : decode cX6_gate 6 = .ok (.ifCond .eq 10, 3) := by decide +kernel
theorem dX6_gate_9 : decode cX6_gate 9 = .ok (.iload_n 2, 1) := by decide +kernel
theorem dX6_gate_10 : decode cX6_gate 10 = .ok (.invokestatic 86, 3) := by decide +kernel
theorem dX6_gate_13 : decode cX6_gate 13 = .ok (.ifCond .ne 10, 3) := by decide +kernel
theorem dX6_gate_16 : decode cX6_gate 16 = .ok (.aload_n 0, 1) := by decide +kernel
theorem dX6_gate_17 : decode cX6_gate 17 = .ok (.ldc 71, 2) := by decide +kernel
theorem dX6_gate_19 : decode cX6_gate 19 = .ok (.invokevirtual 72, 3) := by decide +kernel
theorem dX6_gate_22 : decode cX6_gate 22 = .ok (.ireturn, 1) := by decide +kernel
theorem dX6_gate_23 : decode cX6_gate 23 = .ok (.iload_n 1, 1) := by decide +kernel
theorem dX6_gate_24 : decode cX6_gate 24 = .ok (.ifCond .ne 13, 3) := by decide +kernel
theorem dX6_gate_27 : decode cX6_gate 27 = .ok (.aload_n 0, 1) := by decide +kernel
theorem dX6_gate_28 : decode cX6_gate 28 = .ok (.getfield 12, 3) := by decide +kernel
theorem dX6_gate_31 : decode cX6_gate 31 = .ok (.getfield 89, 3) := by decide +kernel
theorem dX6_gate_34 : decode cX6_gate 34 = .ok (.goto 10, 3) := by decide +kernel
theorem dX6_gate_37 : decode cX6_gate 37 = .ok (.aload_n 0, 1) := by decide +kernel
theorem dX6_gate_38 : decode cX6_gate 38 = .ok (.getfield 12, 3) := by decide +kernel
theorem dX6_gate_41 : decode cX6_gate 41 = .ok (.getfield 93, 3) := by decide +kernel
theorem dX6_gate_44 : decode cX6_gate 44 = .ok (.istore_n 3, 1) := by decide +kernel
theorem dX6_gate_45 : decode cX6_gate 45 = .ok (.iload_n 1, 1) := by decide +kernel
theorem dX6_gate_46 : decode cX6_gate 46 = .ok (.ifCond .ne 14, 3) := by decide +kernel
theorem dX6_gate_49 : decode cX6_gate 49 = .ok (.aload_n 0, 1) := by decide +kernel
theorem dX6_gate_50 : decode cX6_gate 50 = .ok (.getfield 12, 3) := by decide +kernel
theorem dX6_gate_53 : decode cX6_gate 53 = .ok (.iload_n 2, 1) := by decide +kernel
theorem dX6_gate_54 : decode cX6_gate 54 = .ok (.putfield 89, 3) := by decide +kernel
theorem dX6_gate_57 : decode cX6_gate 57 = .ok (.goto 11, 3) := by decide +kernel
theorem dX6_gate_60 : decode cX6_gate 60 = .ok (.aload_n 0, 1) := by decide +kernel
theorem dX6_gate_61 : decode cX6_gate 61 = .ok (.getfield 12, 3) := by decide +kernel
theorem dX6_gate_64 : decode cX6_gate 64 = .ok (.iload_n 2, 1) := by decide +kernel
theorem dX6_gate_65 : decode cX6_gate 65 = .ok (.putfield 93, 3) := by decide +kernel
theorem dX6_gate_68 : decode cX6_gate 68 = .ok (.iload_n 3, 1) := by decide +kernel
theorem dX6_gate_69 : decode cX6_gate 69 = .ok (.ireturn, 1) := by decide +kernel
theorem dX6_shut_0 : decode cX6_shut 0 = .ok (.iload_n 1, 1) := by decide +kernel
theorem dX6_shut_1 : decode cX6_shut 1 = .ok (.iconst 0, 1) := by decide +kernel
theorem dX6_shut_2 : decode cX6_shut 2 = .ok (.sipush 9999, 3) := by decide +kernel
theorem dX6_shut_5 : decode cX6_shut 5 = .ok (.invokestatic 79, 3) := by decide +kernel
theorem dX6_shut_8 : decode cX6_shut 8 = .ok (.ifCond .ne 10, 3) := by decide +kernel
theorem dX6_shut_11 : decode cX6_shut 11 = .ok (.aload_n 0, 1) := by decide +kernel
theorem dX6_shut_12 : decode cX6_shut 12 = .ok (.ldc 71, 2) := by decide +kernel
theorem dX6_shut_14 : decode cX6_shut 14 = .ok (.invokevirtual 72, 3) := by decide +kernel
theorem dX6_shut_17 : decode cX6_shut 17 = .ok (.ireturn, 1) := by decide +kernel
theorem dX6_shut_18 : decode cX6_shut 18 = .ok (.aload_n 0, 1) := by decide +kernel
theorem dX6_shut_19 : decode cX6_shut 19 = .ok (.getfield 12, 3) := by decide +kernel
theorem dX6_shut_22 : decode cX6_shut 22 = .ok (.iload_n 1, 1) := by decide +kernel
theorem dX6_shut_23 : decode cX6_shut 23 = .ok (.invokevirtual 96, 3) := by decide +kernel
theorem dX6_shut_26 : decode cX6_shut 26 = .ok (.ifCond .eq 7, 3) := by decide +kernel
theorem dX6_shut_29 : decode cX6_shut 29 = .ok (.iconst 1, 1) := by decide +kernel
theorem dX6_shut_30 : decode cX6_shut 30 = .ok (.goto 4, 3) := by decide +kernel
theorem dX6_shut_33 : decode cX6_shut 33 = .ok (.iconst 0, 1) := by decide +kernel
theorem dX6_shut_34 : decode cX6_shut 34 = .ok (.ireturn, 1) := by decide +kernel
theorem dX6_thing_0 : decode cX6_thing 0 = .ok (.iload_n 1, 1) := by decide +kernel
theorem dX6_thing_1 : decode cX6_thing 1 = .ok (.invokestatic 99, 3) := by decide +kernel
theorem dX6_thing_4 : decode cX6_thing 4 = .ok (.ifCond .eq 10, 3) := by decide +kernel
theorem dX6_thing_7 : decode cX6_thing 7 = .ok (.iload_n 2, 1) := by decide +kernel
theorem dX6_thing_8 : decode cX6_thing 8 = .ok (.invokestatic 102, 3) := by decide +kernel
theorem dX6_thing_11 : decode cX6_thing 11 = .ok (.ifCond .ne 10, 3) := by decide +kernel
theorem dX6_thing_14 : decode cX6_thing 14 = .ok (.aload_n 0, 1) := by decide +kernel
theorem dX6_thing_15 : decode cX6_thing 15 = .ok (.ldc 71, 2) := by decide +kernel
theorem dX6_thing_17 : decode cX6_thing 17 = .ok (.invokevirtual 72, 3) := by decide +kernel
theorem dX6_thing_20 : decode cX6_thing 20 = .ok (.ireturn, 1) := by decide +kernel
theorem dX6_thing_21 : decode cX6_thing 21 = .ok (.aload_n 0, 1) := by decide +kernel
theorem dX6_thing_22 : decode cX6_thing 22 = .ok (.getfield 12, 3) := by decide +kernel
theorem dX6_thing_25 : decode cX6_thing 25 = .ok (.invokevirtual 105, 3) := by decide +kernel
theorem dX6_thing_28 : decode cX6_thing 28 = .ok (.ifCond .eq 10, 3) := by decide +kernel
theorem dX6_thing_31 : decode cX6_thing 31 = .ok (.aload_n 0, 1) := by decide +kernel
theorem dX6_thing_32 : decode cX6_thing 32 = .ok (.ldc 109, 2) := by decide +kernel
theorem dX6_thing_34 : decode cX6_thing 34 = .ok (.invokevirtual 72, 3) := by decide +kernel
theorem dX6_thing_37 : decode cX6_thing 37 = .ok (.ireturn, 1) := by decide +kernel
theorem dX6_thing_38 : decode cX6_thing 38 = .ok (.aload_n 0, 1) := by decide +kernel
theorem dX6_thing_39 : decode cX6_thing 39 = .ok (.getfield 12, 3) := by decide +kernel
theorem dX6_thing_42 : decode cX6_thing 42 = .ok (.iload_n 1, 1) := by decide +kernel
theorem dX6_thing_43 : decode cX6_thing 43 = .ok (.iload_n 2, 1) := by decide +kernel
theorem dX6_thing_44 : decode cX6_thing 44 = .ok (.invokevirtual 110, 3) := by decide +kernel
theorem dX6_thing_47 : decode cX6_thing 47 = .ok (.aload_n 0, 1) := by decide +kernel
theorem dX6_thing_48 : decode cX6_thing 48 = .ok (.getfield 12, 3) := by decide +kernel
theorem dX6_thing_51 : decode cX6_thing 51 = .ok (.getfield 114, 3) := by decide +kernel
theorem dX6_thing_54 : decode cX6_thing 54 = .ok (.iconst 1, 1) := by decide +kernel
theorem dX6_thing_55 : decode cX6_thing 55 = .ok (.isub, 1) := by decide +kernel
theorem dX6_thing_56 : decode cX6_thing 56 = .ok (.ireturn, 1) := by decide +kernel
theorem dX6_of_0 : decode cX6_of 0 = .ok (.aload_n 0, 1) := by decide +kernel
theorem dX6_of_1 : decode cX6_of 1 = .ok (.iload_n 1, 1) := by decide +kernel
theorem dX6_of_2 : decode cX6_of 2 = .ok (.invokevirtual 117, 3) := by decide +kernel
theorem dX6_of_5 : decode cX6_of 5 = .ok (.ifCond .eq 13, 3) := by decide +kernel
theorem dX6_of_8 : decode cX6_of 8 = .ok (.iload_n 2, 1) := by decide +kernel
theorem dX6_of_9 : decode cX6_of 9 = .ok (.iconst 0, 1) := by decide +kernel
theorem dX6_of_10 : decode cX6_of 10 = .ok (.bipush 8, 2) := by decide +kernel
theorem dX6_of_12 : decode cX6_of 12 = .ok (.invokestatic 79, 3) := by decide +kernel
theorem dX6_of_15 : decode cX6_of 15 = .ok (.ifCond .ne 10, 3) := by decide +kernel
theorem dX6_of_18 : decode cX6_of 18 = .ok (.aload_n 0, 1) := by decide +kernel
theorem dX6_of_19 : decode cX6_of 19 = .ok (.ldc 71, 2) := by decide +kernel
theorem dX6_of_21 : decode cX6_of 21 = .ok (.invokevirtual 72, 3) := by decide +kernel
theorem dX6_of_24 : decode cX6_of 24 = .ok (.ireturn, 1) := by decide +kernel
theorem dX6_of_25 : decode cX6_of 25 = .ok (.aload_n 0, 1) := by decide +kernel
theorem dX6_of_26 : decode cX6_of 26 = .ok (.getfield 12, 3) := by decide +kernel
theorem dX6_of_29 : decode cX6_of 29 = .ok (.getfield 120, 3) := by decide +kernel
theorem dX6_of_32 : decode cX6_of 32 = .ok (.iload_n 1, 1) := by decide +kernel
theorem dX6_of_33 : decode cX6_of 33 = .ok (.aaload, 1) := by decide +kernel
theorem dX6_of_34 : decode cX6_of 34 = .ok (.astore_n 3, 1) := by decide +kernel
theorem dX6_of_35 : decode cX6_of 35 = .ok (.iload_n 2, 1) := by decide +kernel
theorem dX6_of_36 : decode cX6_of 36 = .ok (.tableswitch 88 0 7 #[48, 53, 58, 63, 68, 73, 78, 83], 48) := by decide +kernel
theorem dX6_of_84 : decode cX6_of 84 = .ok (.aload_n 3, 1) := by decide +kernel
theorem dX6_of_85 : decode cX6_of 85 = .ok (.getfield 124, 3) := by decide +kernel
theorem dX6_of_88 : decode cX6_of 88 = .ok (.ireturn, 1) := by decide +kernel
theorem dX6_of_89 : decode cX6_of 89 = .ok (.aload_n 3, 1) := by decide +kernel
theorem dX6_of_90 : decode cX6_of 90 = .ok (.getfield 129, 3) := by decide +kernel
theorem dX6_of_93 : decode cX6_of 93 = .ok (.ireturn, 1) := by decide +kernel
theorem dX6_of_94 : decode cX6_of 94 = .ok (.aload_n 3, 1) := by decide +kernel
theorem dX6_of_95 : decode cX6_of 95 = .ok (.getfield 132, 3) := by decide +kernel
theorem dX6_of_98 : decode cX6_of 98 = .ok (.ireturn, 1) := by decide +kernel
theorem dX6_of_99 : decode cX6_of 99 = .ok (.aload_n 3, 1) := by decide +kernel
theorem dX6_of_100 : decode cX6_of 100 = .ok (.getfield 135, 3) := by decide +kernel
theorem dX6_of_103 : decode cX6_of 103 = .ok (.ireturn, 1) := by decide +kernel
theorem dX6_of_104 : decode cX6_of 104 = .ok (.aload_n 3, 1) := by decide +kernel
theorem dX6_of_105 : decode cX6_of 105 = .ok (.getfield 138, 3) := by decide +kernel
theorem dX6_of_108 : decode cX6_of 108 = .ok (.ireturn, 1) := by decide +kernel
theorem dX6_of_109 : decode cX6_of 109 = .ok (.aload_n 3, 1) := by decide +kernel
theorem dX6_of_110 : decode cX6_of 110 = .ok (.getfield 141, 3) := by decide +kernel
theorem dX6_of_113 : decode cX6_of 113 = .ok (.ireturn, 1) := by decide +kernel
theorem dX6_of_114 : decode cX6_of 114 = .ok (.aload_n 3, 1) := by decide +kernel
theorem dX6_of_115 : decode cX6_of 115 = .ok (.getfield 144, 3) := by decide +kernel
theorem dX6_of_118 : decode cX6_of 118 = .ok (.ireturn, 1) := by decide +kernel
theorem dX6_of_119 : decode cX6_of 119 = .ok (.aload_n 3, 1) := by decide +kernel
theorem dX6_of_120 : decode cX6_of 120 = .ok (.getfield 147, 3) := by decide +kernel
theorem dX6_of_123 : decode cX6_of 123 = .ok (.ireturn, 1) := by decide +kernel
theorem dX6_of_124 : decode cX6_of 124 = .ok (.aload_n 3, 1) := by decide +kernel
theorem dX6_of_125 : decode cX6_of 125 = .ok (.invokevirtual 150, 3) := by decide +kernel
theorem dX6_of_128 : decode cX6_of 128 = .ok (.ireturn, 1) := by decide +kernel
theorem dX6_change_0 : decode cX6_change 0 = .ok (.aload_n 0, 1) := by decide +kernel
theorem dX6_change_1 : decode cX6_change 1 = .ok (.iload_n 1, 1) := by decide +kernel
theorem dX6_change_2 : decode cX6_change 2 = .ok (.invokevirtual 117, 3) := by decide +kernel
theorem dX6_change_5 : decode cX6_change 5 = .ok (.ifCond .ne 10, 3) := by decide +kernel
theorem dX6_change_8 : decode cX6_change 8 = .ok (.aload_n 0, 1) := by decide +kernel
theorem dX6_change_9 : decode cX6_change 9 = .ok (.ldc 71, 2) := by decide +kernel
theorem dX6_change_11 : decode cX6_change 11 = .ok (.invokevirtual 72, 3) := by decide +kernel
theorem dX6_change_14 : decode cX6_change 14 = .ok (.ireturn, 1) := by decide +kernel
theorem dX6_change_15 : decode cX6_change 15 = .ok (.aload_n 0, 1) := by decide +kernel
theorem dX6_change_16 : decode cX6_change 16 = .ok (.getfield 12, 3) := by decide +kernel
theorem dX6_change_19 : decode cX6_change 19 = .ok (.getfield 120, 3) := by decide +kernel
theorem dX6_change_22 : decode cX6_change 22 = .ok (.iload_n 1, 1) := by decide +kernel
theorem dX6_change_23 : decode cX6_change 23 = .ok (.aaload, 1) := by decide +kernel
theorem dX6_change_24 : decode cX6_change 24 = .ok (.astore 4, 2) := by decide +kernel
theorem dX6_change_26 : decode cX6_change 26 = .ok (.iload_n 2, 1) := by decide +kernel
theorem dX6_change_27 : decode cX6_change 27 = .ok (.ifCond .ne 26, 3) := by decide +kernel
theorem dX6_change_30 : decode cX6_change 30 = .ok (.iload_n 3, 1) := by decide +kernel
theorem dX6_change_31 : decode cX6_change 31 = .ok (.invokestatic 99, 3) := by decide +kernel
theorem dX6_change_34 : decode cX6_change 34 = .ok (.ifCond .eq 19, 3) := by decide +kernel
theorem dX6_change_37 : decode cX6_change 37 = .ok (.aload 4, 2) := by decide +kernel
theorem dX6_change_39 : decode cX6_change 39 = .ok (.getfield 124, 3) := by decide +kernel
theorem dX6_change_42 : decode cX6_change 42 = .ok (.istore 5, 2) := by decide +kernel
theorem dX6_change_44 : decode cX6_change 44 = .ok (.aload 4, 2) := by decide +kernel
theorem dX6_change_46 : decode cX6_change 46 = .ok (.iload_n 3, 1) := by decide +kernel
theorem dX6_change_47 : decode cX6_change 47 = .ok (.putfield 124, 3) := by decide +kernel
theorem dX6_change_50 : decode cX6_change 50 = .ok (.goto 94, 3) := by decide +kernel
theorem dX6_change_53 : decode cX6_change 53 = .ok (.iload_n 2, 1) := by decide +kernel
theorem dX6_change_54 : decode cX6_change 54 = .ok (.iconst 1, 1) := by decide +kernel
theorem dX6_change_55 : decode cX6_change 55 = .ok (.if_icmp .ne 26, 3) := by decide +kernel
theorem dX6_change_58 : decode cX6_change 58 = .ok (.iload_n 3, 1) := by decide +kernel
theorem dX6_change_59 : decode cX6_change 59 = .ok (.invokestatic 102, 3) := by decide +kernel
theorem dX6_change_62 : decode cX6_change 62 = .ok (.ifCond .eq 19, 3) := by decide +kernel
theorem dX6_change_65 : decode cX6_change 65 = .ok (.aload 4, 2) := by decide +kernel
theorem dX6_change_67 : decode cX6_change 67 = .ok (.getfield 129, 3) := by decide +kernel
theorem dX6_change_70 : decode cX6_change 70 = .ok (.istore 5, 2) := by decide +kernel
theorem dX6_change_72 : decode cX6_change 72 = .ok (.aload 4, 2) := by decide +kernel
theorem dX6_change_74 : decode cX6_change 74 = .ok (.iload_n 3, 1) := by decide +kernel
theorem dX6_change_75 : decode cX6_change 75 = .ok (.putfield 129, 3) := by decide +kernel
theorem dX6_change_78 : decode cX6_change 78 = .ok (.goto 66, 3) := by decide +kernel
theorem dX6_change_81 : decode cX6_change 81 = .ok (.iload_n 2, 1) := by decide +kernel
theorem dX6_change_82 : decode cX6_change 82 = .ok (.iconst 2, 1) := by decide +kernel
theorem dX6_change_83 : decode cX6_change 83 = .ok (.if_icmp .ne 26, 3) := by decide +kernel
theorem dX6_change_86 : decode cX6_change 86 = .ok (.iload_n 3, 1) := by decide +kernel
theorem dX6_change_87 : decode cX6_change 87 = .ok (.invokestatic 154, 3) := by decide +kernel
theorem dX6_change_90 : decode cX6_change 90 = .ok (.ifCond .eq 19, 3) := by decide +kernel
theorem dX6_change_93 : decode cX6_change 93 = .ok (.aload 4, 2) := by decide +kernel
theorem dX6_change_95 : decode cX6_change 95 = .ok (.getfield 132, 3) := by decide +kernel
theorem dX6_change_98 : decode cX6_change 98 = .ok (.istore 5, 2) := by decide +kernel
theorem dX6_change_100 : decode cX6_change 100 = .ok (.aload 4, 2) := by decide +kernel
theorem dX6_change_102 : decode cX6_change 102 = .ok (.iload_n 3, 1) := by decide +kernel
theorem dX6_change_103 : decode cX6_change 103 = .ok (.putfield 132, 3) := by decide +kernel
theorem dX6_change_106 : decode cX6_change 106 = .ok (.goto 38, 3) := by decide +kernel
theorem dX6_change_109 : decode cX6_change 109 = .ok (.iload_n 2, 1) := by decide +kernel
theorem dX6_change_110 : decode cX6_change 110 = .ok (.iconst 3, 1) := by decide +kernel
theorem dX6_change_111 : decode cX6_change 111 = .ok (.if_icmp .ne 26, 3) := by decide +kernel
theorem dX6_change_114 : decode cX6_change 114 = .ok (.iload_n 3, 1) := by decide +kernel
theorem dX6_change_115 : decode cX6_change 115 = .ok (.invokestatic 157, 3) := by decide +kernel
theorem dX6_change_118 : decode cX6_change 118 = .ok (.ifCond .eq 19, 3) := by decide +kernel
theorem dX6_change_121 : decode cX6_change 121 = .ok (.aload 4, 2) := by decide +kernel
theorem dX6_change_123 : decode cX6_change 123 = .ok (.getfield 135, 3) := by decide +kernel
theorem dX6_change_126 : decode cX6_change 126 = .ok (.istore 5, 2) := by decide +kernel
theorem dX6_change_128 : decode cX6_change 128 = .ok (.aload 4, 2) := by decide +kernel
theorem dX6_change_130 : decode cX6_change 130 = .ok (.iload_n 3, 1) := by decide +kernel
theorem dX6_change_131 : decode cX6_change 131 = .ok (.putfield 135, 3) := by decide +kernel
theorem dX6_change_134 : decode cX6_change 134 = .ok (.goto 10, 3) := by decide +kernel
theorem dX6_change_137 : decode cX6_change 137 = .ok (.aload_n 0, 1) := by decide +kernel
theorem dX6_change_138 : decode cX6_change 138 = .ok (.ldc 71, 2) := by decide +kernel
theorem dX6_change_140 : decode cX6_change 140 = .ok (.invokevirtual 72, 3) := by decide +kernel
theorem dX6_change_143 : decode cX6_change 143 = .ok (.ireturn, 1) := by decide +kernel
theorem dX6_change_144 : decode cX6_change 144 = .ok (.iload 5, 2) := by decide +kernel
theorem dX6_change_146 : decode cX6_change 146 = .ok (.ireturn, 1) := by decide +kernel
theorem dX6_told_0 : decode cX6_told 0 = .ok (.aload_n 0, 1) := by decide +kernel
theorem dX6_told_1 : decode cX6_told 1 = .ok (.iload_n 1, 1) := by decide +kernel
theorem dX6_told_2 : decode cX6_told 2 = .ok (.invokevirtual 117, 3) := by decide +kernel
theorem dX6_told_5 : decode cX6_told 5 = .ok (.ifCond .eq 19, 3) := by decide +kernel
theorem dX6_told_8 : decode cX6_told 8 = .ok (.iload_n 2, 1) := by decide +kernel
theorem dX6_told_9 : decode cX6_told 9 = .ok (.iconst 0, 1) := by decide +kernel
theorem dX6_told_10 : decode cX6_told 10 = .ok (.iconst 1, 1) := by decide +kernel
theorem dX6_told_11 : decode cX6_told 11 = .ok (.invokestatic 79, 3) := by decide +kernel
theorem dX6_told_14 : decode cX6_told 14 = .ok (.ifCond .eq 10, 3) := by decide +kernel
theorem dX6_told_17 : decode cX6_told 17 = .ok (.iload_n 3, 1) := by decide +kernel
theorem dX6_told_18 : decode cX6_told 18 = .ok (.invokestatic 64, 3) := by decide +kernel
theorem dX6_told_21 : decode cX6_told 21 = .ok (.ifCond .ne 10, 3) := by decide +kernel
theorem dX6_told_24 : decode cX6_told 24 = .ok (.aload_n 0, 1) := by decide +kernel
theorem dX6_told_25 : decode cX6_told 25 = .ok (.ldc 71, 2) := by decide +kernel
theorem dX6_told_27 : decode cX6_told 27 = .ok (.invokevirtual 72, 3) := by decide +kernel
theorem dX6_told_30 : decode cX6_told 30 = .ok (.ireturn, 1) := by decide +kernel
theorem dX6_told_31 : decode cX6_told 31 = .ok (.aload_n 0, 1) := by decide +kernel
theorem dX6_told_32 : decode cX6_told 32 = .ok (.getfield 12, 3) := by decide +kernel
theorem dX6_told_35 : decode cX6_told 35 = .ok (.getfield 120, 3) := by decide +kernel
theorem dX6_told_38 : decode cX6_told 38 = .ok (.iload_n 1, 1) := by decide +kernel
theorem dX6_told_39 : decode cX6_told 39 = .ok (.aaload, 1) := by decide +kernel
theorem dX6_told_40 : decode cX6_told 40 = .ok (.astore 4, 2) := by decide +kernel
theorem dX6_told_42 : decode cX6_told 42 = .ok (.iload_n 2, 1) := by decide +kernel
theorem dX6_told_43 : decode cX6_told 43 = .ok (.ifCond .ne 20, 3) := by decide +kernel
theorem dX6_told_46 : decode cX6_told 46 = .ok (.aload 4, 2) := by decide +kernel
theorem dX6_told_48 : decode cX6_told 48 = .ok (.aload_n 0, 1) := by decide +kernel
theorem dX6_told_49 : decode cX6_told 49 = .ok (.getfield 12, 3) := by decide +kernel
theorem dX6_told_52 : decode cX6_told 52 = .ok (.getfield 76, 3) := by decide +kernel
theorem dX6_told_55 : decode cX6_told 55 = .ok (.iload_n 3, 1) := by decide +kernel
theorem dX6_told_56 : decode cX6_told 56 = .ok (.iaload, 1) := by decide +kernel
theorem dX6_told_57 : decode cX6_told 57 = .ok (.invokevirtual 160, 3) := by decide +kernel
theorem dX6_told_60 : decode cX6_told 60 = .ok (.goto 17, 3) := by decide +kernel
theorem dX6_told_63 : decode cX6_told 63 = .ok (.aload 4, 2) := by decide +kernel
theorem dX6_told_65 : decode cX6_told 65 = .ok (.aload_n 0, 1) := by decide +kernel
theorem dX6_told_66 : decode cX6_told 66 = .ok (.getfield 12, 3) := by decide +kernel
theorem dX6_told_69 : decode cX6_told 69 = .ok (.getfield 83, 3) := by decide +kernel
theorem dX6_told_72 : decode cX6_told 72 = .ok (.iload_n 3, 1) := by decide +kernel
theorem dX6_told_73 : decode cX6_told 73 = .ok (.iaload, 1) := by decide +kernel
theorem dX6_told_74 : decode cX6_told 74 = .ok (.invokevirtual 163, 3) := by decide +kernel
theorem dX6_told_77 : decode cX6_told 77 = .ok (.ireturn, 1) := by decide +kernel
theorem dX6_go_0 : decode cX6_go 0 = .ok (.aload_n 0, 1) := by decide +kernel
theorem dX6_go_1 : decode cX6_go 1 = .ok (.iload_n 1, 1) := by decide +kernel
theorem dX6_go_2 : decode cX6_go 2 = .ok (.invokevirtual 117, 3) := by decide +kernel
theorem dX6_go_5 : decode cX6_go 5 = .ok (.ifCond .ne 10, 3) := by decide +kernel
theorem dX6_go_8 : decode cX6_go 8 = .ok (.aload_n 0, 1) := by decide +kernel
theorem dX6_go_9 : decode cX6_go 9 = .ok (.ldc 71, 2) := by decide +kernel
theorem dX6_go_11 : decode cX6_go 11 = .ok (.invokevirtual 72, 3) := by decide +kernel
theorem dX6_go_14 : decode cX6_go 14 = .ok (.ireturn, 1) := by decide +kernel
theorem dX6_go_15 : decode cX6_go 15 = .ok (.aload_n 0, 1) := by decide +kernel
theorem dX6_go_16 : decode cX6_go 16 = .ok (.getfield 12, 3) := by decide +kernel
theorem dX6_go_19 : decode cX6_go 19 = .ok (.getfield 120, 3) := by decide +kernel
theorem dX6_go_22 : decode cX6_go 22 = .ok (.iload_n 1, 1) := by decide +kernel
theorem dX6_go_23 : decode cX6_go 23 = .ok (.aaload, 1) := by decide +kernel
theorem dX6_go_24 : decode cX6_go 24 = .ok (.astore_n 2, 1) := by decide +kernel
theorem dX6_go_25 : decode cX6_go 25 = .ok (.aload_n 2, 1) := by decide +kernel
theorem dX6_go_26 : decode cX6_go 26 = .ok (.invokevirtual 166, 3) := by decide +kernel
theorem dX6_go_29 : decode cX6_go 29 = .ok (.ifCond .ne 10, 3) := by decide +kernel
theorem dX6_go_32 : decode cX6_go 32 = .ok (.aload_n 0, 1) := by decide +kernel
theorem dX6_go_33 : decode cX6_go 33 = .ok (.ldc 169, 2) := by decide +kernel
theorem dX6_go_35 : decode cX6_go 35 = .ok (.invokevirtual 72, 3) := by decide +kernel
theorem dX6_go_38 : decode cX6_go 38 = .ok (.ireturn, 1) := by decide +kernel
theorem dX6_go_39 : decode cX6_go 39 = .ok (.aload_n 2, 1) := by decide +kernel
theorem dX6_go_40 : decode cX6_go 40 = .ok (.bipush 10, 2) := by decide +kernel
theorem dX6_go_42 : decode cX6_go 42 = .ok (.invokevirtual 170, 3) := by decide +kernel
theorem dX6_go_45 : decode cX6_go 45 = .ok (.aload_n 2, 1) := by decide +kernel
theorem dX6_go_46 : decode cX6_go 46 = .ok (.getfield 138, 3) := by decide +kernel
theorem dX6_go_49 : decode cX6_go 49 = .ok (.ireturn, 1) := by decide +kernel
theorem dX6_put_0 : decode cX6_put 0 = .ok (.aload_n 0, 1) := by decide +kernel
theorem dX6_put_1 : decode cX6_put 1 = .ok (.iload_n 1, 1) := by decide +kernel
theorem dX6_put_2 : decode cX6_put 2 = .ok (.invokevirtual 117, 3) := by decide +kernel
theorem dX6_put_5 : decode cX6_put 5 = .ok (.ifCond .eq 10, 3) := by decide +kernel
theorem dX6_put_8 : decode cX6_put 8 = .ok (.iload_n 2, 1) := by decide +kernel
theorem dX6_put_9 : decode cX6_put 9 = .ok (.invokestatic 64, 3) := by decide +kernel
theorem dX6_put_12 : decode cX6_put 12 = .ok (.ifCond .ne 10, 3) := by decide +kernel
theorem dX6_put_15 : decode cX6_put 15 = .ok (.aload_n 0, 1) := by decide +kernel
theorem dX6_put_16 : decode cX6_put 16 = .ok (.ldc 71, 2) := by decide +kernel
theorem dX6_put_18 : decode cX6_put 18 = .ok (.invokevirtual 72, 3) := by decide +kernel
theorem dX6_put_21 : decode cX6_put 21 = .ok (.ireturn, 1) := by decide +kernel
theorem dX6_put_22 : decode cX6_put 22 = .ok (.aload_n 0, 1) := by decide +kernel
theorem dX6_put_23 : decode cX6_put 23 = .ok (.getfield 12, 3) := by decide +kernel
theorem dX6_put_26 : decode cX6_put 26 = .ok (.getfield 120, 3) := by decide +kernel
theorem dX6_put_29 : decode cX6_put 29 = .ok (.iload_n 1, 1) := by decide +kernel
theorem dX6_put_30 : decode cX6_put 30 = .ok (.aaload, 1) := by decide +kernel
theorem dX6_put_31 : decode cX6_put 31 = .ok (.astore_n 3, 1) := by decide +kernel
theorem dX6_put_32 : decode cX6_put 32 = .ok (.aload_n 3, 1) := by decide +kernel
theorem dX6_put_33 : decode cX6_put 33 = .ok (.getfield 138, 3) := by decide +kernel
theorem dX6_put_36 : decode cX6_put 36 = .ok (.istore 4, 2) := by decide +kernel
theorem dX6_put_38 : decode cX6_put 38 = .ok (.aload_n 3, 1) := by decide +kernel
theorem dX6_put_39 : decode cX6_put 39 = .ok (.iload_n 2, 1) := by decide +kernel
theorem dX6_put_40 : decode cX6_put 40 = .ok (.putfield 138, 3) := by decide +kernel
theorem dX6_put_43 : decode cX6_put 43 = .ok (.aload_n 3, 1) := by decide +kernel
theorem dX6_put_44 : decode cX6_put 44 = .ok (.invokevirtual 174, 3) := by decide +kernel
theorem dX6_put_47 : decode cX6_put 47 = .ok (.iload 4, 2) := by decide +kernel
theorem dX6_put_49 : decode cX6_put 49 = .ok (.ireturn, 1) := by decide +kernel
theorem dX6_minutes_0 : decode cX6_minutes 0 = .ok (.iload_n 1, 1) := by decide +kernel
theorem dX6_minutes_1 : decode cX6_minutes 1 = .ok (.iconst 1, 1) := by decide +kernel
theorem dX6_minutes_2 : decode cX6_minutes 2 = .ok (.bipush 120, 2) := by decide +kernel
theorem dX6_minutes_4 : decode cX6_minutes 4 = .ok (.invokestatic 79, 3) := by decide +kernel
theorem dX6_minutes_7 : decode cX6_minutes 7 = .ok (.ifCond .ne 10, 3) := by decide +kernel
theorem dX6_minutes_10 : decode cX6_minutes 10 = .ok (.aload_n 0, 1) := by decide +kernel
theorem dX6_minutes_11 : decode cX6_minutes 11 = .ok (.ldc 71, 2) := by decide +kernel
theorem dX6_minutes_13 : decode cX6_minutes 13 = .ok (.invokevirtual 72, 3) := by decide +kernel
theorem dX6_minutes_16 : decode cX6_minutes 16 = .ok (.ireturn, 1) := by decide +kernel
theorem dX6_minutes_17 : decode cX6_minutes 17 = .ok (.aload_n 0, 1) := by decide +kernel
theorem dX6_minutes_18 : decode cX6_minutes 18 = .ok (.getfield 12, 3) := by decide +kernel
theorem dX6_minutes_21 : decode cX6_minutes 21 = .ok (.getfield 177, 3) := by decide +kernel
theorem dX6_minutes_24 : decode cX6_minutes 24 = .ok (.sipush 9999, 3) := by decide +kernel
theorem dX6_minutes_27 : decode cX6_minutes 27 = .ok (.iload_n 1, 1) := by decide +kernel
theorem dX6_minutes_28 : decode cX6_minutes 28 = .ok (.isub, 1) := by decide +kernel
theorem dX6_minutes_29 : decode cX6_minutes 29 = .ok (.if_icmp .le 10, 3) := by decide +kernel
theorem dX6_minutes_32 : decode cX6_minutes 32 = .ok (.aload_n 0, 1) := by decide +kernel
theorem dX6_minutes_33 : decode cX6_minutes 33 = .ok (.ldc 169, 2) := by decide +kernel
theorem dX6_minutes_35 : decode cX6_minutes 35 = .ok (.invokevirtual 72, 3) := by decide +kernel
theorem dX6_minutes_38 : decode cX6_minutes 38 = .ok (.ireturn, 1) := by decide +kernel
theorem dX6_minutes_39 : decode cX6_minutes 39 = .ok (.aload_n 0, 1) := by decide +kernel
theorem dX6_minutes_40 : decode cX6_minutes 40 = .ok (.getfield 12, 3) := by decide +kernel
theorem dX6_minutes_43 : decode cX6_minutes 43 = .ok (.iconst 2, 1) := by decide +kernel
theorem dX6_minutes_44 : decode cX6_minutes 44 = .ok (.invokevirtual 180, 3) := by decide +kernel
theorem dX6_minutes_47 : decode cX6_minutes 47 = .ok (.invokestatic 183, 3) := by decide +kernel
theorem dX6_minutes_50 : decode cX6_minutes 50 = .ok (.istore_n 2, 1) := by decide +kernel
theorem dX6_minutes_51 : decode cX6_minutes 51 = .ok (.aload_n 0, 1) := by decide +kernel
theorem dX6_minutes_52 : decode cX6_minutes 52 = .ok (.getfield 12, 3) := by decide +kernel
theorem dX6_minutes_55 : decode cX6_minutes 55 = .ok (.iload_n 1, 1) := by decide +kernel
theorem dX6_minutes_56 : decode cX6_minutes 56 = .ok (.invokevirtual 188, 3) := by decide +kernel
theorem dX6_minutes_59 : decode cX6_minutes 59 = .ok (.istore_n 3, 1) := by decide +kernel
theorem dX6_minutes_60 : decode cX6_minutes 60 = .ok (.iload_n 3, 1) := by decide +kernel
theorem dX6_minutes_61 : decode cX6_minutes 61 = .ok (.aload_n 0, 1) := by decide +kernel
theorem dX6_minutes_62 : decode cX6_minutes 62 = .ok (.getfield 12, 3) := by decide +kernel
theorem dX6_minutes_65 : decode cX6_minutes 65 = .ok (.iconst 2, 1) := by decide +kernel
theorem dX6_minutes_66 : decode cX6_minutes 66 = .ok (.invokevirtual 180, 3) := by decide +kernel
theorem dX6_minutes_69 : decode cX6_minutes 69 = .ok (.invokestatic 183, 3) := by decide +kernel
theorem dX6_minutes_72 : decode cX6_minutes 72 = .ok (.iadd, 1) := by decide +kernel
theorem dX6_minutes_73 : decode cX6_minutes 73 = .ok (.iload_n 2, 1) := by decide +kernel
theorem dX6_minutes_74 : decode cX6_minutes 74 = .ok (.isub, 1) := by decide +kernel
theorem dX6_minutes_75 : decode cX6_minutes 75 = .ok (.ireturn, 1) := by decide +kernel
theorem dX6_are_0 : decode cX6_are 0 = .ok (.iload_n 1, 1) := by decide +kernel
theorem dX6_are_1 : decode cX6_are 1 = .ok (.iconst 0, 1) := by decide +kernel
theorem dX6_are_2 : decode cX6_are 2 = .ok (.iconst 3, 1) := by decide +kernel
theorem dX6_are_3 : decode cX6_are 3 = .ok (.invokestatic 79, 3) := by decide +kernel
theorem dX6_are_6 : decode cX6_are 6 = .ok (.ifCond .ne 10, 3) := by decide +kernel
theorem dX6_are_9 : decode cX6_are 9 = .ok (.aload_n 0, 1) := by decide +kernel
theorem dX6_are_10 : decode cX6_are 10 = .ok (.ldc 71, 2) := by decide +kernel
theorem dX6_are_12 : decode cX6_are 12 = .ok (.invokevirtual 72, 3) := by decide +kernel
theorem dX6_are_15 : decode cX6_are 15 = .ok (.ireturn, 1) := by decide +kernel
theorem dX6_are_16 : decode cX6_are 16 = .ok (.aload_n 0, 1) := by decide +kernel
theorem dX6_are_17 : decode cX6_are 17 = .ok (.getfield 12, 3) := by decide +kernel
theorem dX6_are_20 : decode cX6_are 20 = .ok (.iload_n 1, 1) := by decide +kernel
theorem dX6_are_21 : decode cX6_are 21 = .ok (.invokevirtual 180, 3) := by decide +kernel
theorem dX6_are_24 : decode cX6_are 24 = .ok (.ireturn, 1) := by decide +kernel
theorem dX6_on_0 : decode cX6_on 0 = .ok (.iload_n 1, 1) := by decide +kernel
theorem dX6_on_1 : decode cX6_on 1 = .ok (.invokestatic 64, 3) := by decide +kernel
theorem dX6_on_4 : decode cX6_on 4 = .ok (.ifCond .ne 10, 3) := by decide +kernel
theorem dX6_on_7 : decode cX6_on 7 = .ok (.aload_n 0, 1) := by decide +kernel
theorem dX6_on_8 : decode cX6_on 8 = .ok (.ldc 71, 2) := by decide +kernel
theorem dX6_on_10 : decode cX6_on 10 = .ok (.invokevirtual 72, 3) := by decide +kernel
theorem dX6_on_13 : decode cX6_on 13 = .ok (.ireturn, 1) := by decide +kernel
theorem dX6_on_14 : decode cX6_on 14 = .ok (.aload_n 0, 1) := by decide +kernel
theorem dX6_on_15 : decode cX6_on 15 = .ok (.getfield 12, 3) := by decide +kernel
theorem dX6_on_18 : decode cX6_on 18 = .ok (.iload_n 1, 1) := by decide +kernel
theorem dX6_on_19 : decode cX6_on 19 = .ok (.invokevirtual 191, 3) := by decide +kernel
theorem dX6_on_22 : decode cX6_on 22 = .ok (.ireturn, 1) := by decide +kernel
theorem dX6_ahead_0 : decode cX6_ahead 0 = .ok (.iload_n 1, 1) := by decide +kernel
theorem dX6_ahead_1 : decode cX6_ahead 1 = .ok (.iconst 0, 1) := by decide +kernel
theorem dX6_ahead_2 : decode cX6_ahead 2 = .ok (.sipush 200, 3) := by decide +kernel
theorem dX6_ahead_5 : decode cX6_ahead 5 = .ok (.invokestatic 79, 3) := by decide +kernel
theorem dX6_ahead_8 : decode cX6_ahead 8 = .ok (.ifCond .eq 27, 3) := by decide +kernel
theorem dX6_ahead_11 : decode cX6_ahead 11 = .ok (.iload_n 2, 1) := by decide +kernel
theorem dX6_ahead_12 : decode cX6_ahead 12 = .ok (.iconst 0, 1) := by decide +kernel
theorem dX6_ahead_13 : decode cX6_ahead 13 = .ok (.iconst 3, 1) := by decide +kernel
theorem dX6_ahead_14 : decode cX6_ahead 14 = .ok (.invokestatic 79, 3) := by decide +kernel
theorem dX6_ahead_17 : decode cX6_ahead 17 = .ok (.ifCond .ne 25, 3) := by decide +kernel
theorem dX6_ahead_20 : decode cX6_ahead 20 = .ok (.iload_n 2, 1) := by decide +kernel
theorem dX6_ahead_21 : decode cX6_ahead 21 = .ok (.iconst 3, 1) := by decide +kernel
theorem dX6_ahead_22 : decode cX6_ahead 22 = .ok (.if_icmp .le 13, 3) := by decide +kernel
theorem dX6_ahead_25 : decode cX6_ahead 25 = .ok (.aload_n 0, 1) := by decide +kernel
theorem dX6_ahead_26 : decode cX6_ahead 26 = .ok (.iload_n 2, 1) := by decide +kernel
theorem dX6_ahead_27 : decode cX6_ahead 27 = .ok (.iconst 4, 1) := by decide +kernel
theorem dX6_ahead_28 : decode cX6_ahead 28 = .ok (.isub, 1) := by decide +kernel
theorem dX6_ahead_29 : decode cX6_ahead 29 = .ok (.invokevirtual 117, 3) := by decide +kernel
theorem dX6_ahead_32 : decode cX6_ahead 32 = .ok (.ifCond .ne 10, 3) := by decide +kernel
theorem dX6_ahead_35 : decode cX6_ahead 35 = .ok (.aload_n 0, 1) := by decide +kernel
theorem dX6_ahead_36 : decode cX6_ahead 36 = .ok (.ldc 71, 2) := by decide +kernel
theorem dX6_ahead_38 : decode cX6_ahead 38 = .ok (.invokevirtual 72, 3) := by decide +kernel
theorem dX6_ahead_41 : decode cX6_ahead 41 = .ok (.ireturn, 1) := by decide +kernel
theorem dX6_ahead_42 : decode cX6_ahead 42 = .ok (.aload_n 0, 1) := by decide +kernel
theorem dX6_ahead_43 : decode cX6_ahead 43 = .ok (.getfield 12, 3) := by decide +kernel
theorem dX6_ahead_46 : decode cX6_ahead 46 = .ok (.getfield 177, 3) := by decide +kernel
theorem dX6_ahead_49 : decode cX6_ahead 49 = .ok (.sipush 9999, 3) := by decide +kernel
theorem dX6_ahead_52 : decode cX6_ahead 52 = .ok (.iload_n 1, 1) := by decide +kernel
theorem dX6_ahead_53 : decode cX6_ahead 53 = .ok (.isub, 1) := by decide +kernel
theorem dX6_ahead_54 : decode cX6_ahead 54 = .ok (.if_icmp .le 10, 3) := by decide +kernel
theorem dX6_ahead_57 : decode cX6_ahead 57 = .ok (.aload_n 0, 1) := by decide +kernel
theorem dX6_ahead_58 : decode cX6_ahead 58 = .ok (.ldc 169, 2) := by decide +kernel
theorem dX6_ahead_60 : decode cX6_ahead 60 = .ok (.invokevirtual 72, 3) := by decide +kernel
theorem dX6_ahead_63 : decode cX6_ahead 63 = .ok (.ireturn, 1) := by decide +kernel
theorem dX6_ahead_64 : decode cX6_ahead 64 = .ok (.aload_n 0, 1) := by decide +kernel
theorem dX6_ahead_65 : decode cX6_ahead 65 = .ok (.getfield 23, 3) := by decide +kernel
theorem dX6_ahead_68 : decode cX6_ahead 68 = .ok (.aload_n 0, 1) := by decide +kernel
theorem dX6_ahead_69 : decode cX6_ahead 69 = .ok (.getfield 12, 3) := by decide +kernel
theorem dX6_ahead_72 : decode cX6_ahead 72 = .ok (.invokevirtual 194, 3) := by decide +kernel
theorem dX6_ahead_75 : decode cX6_ahead 75 = .ok (.aload_n 0, 1) := by decide +kernel
theorem dX6_ahead_76 : decode cX6_ahead 76 = .ok (.getfield 23, 3) := by decide +kernel
theorem dX6_ahead_79 : decode cX6_ahead 79 = .ok (.iload_n 1, 1) := by decide +kernel
theorem dX6_ahead_80 : decode cX6_ahead 80 = .ok (.invokevirtual 188, 3) := by decide +kernel
theorem dX6_ahead_83 : decode cX6_ahead 83 = .ok (.pop, 1) := by decide +kernel
theorem dX6_ahead_84 : decode cX6_ahead 84 = .ok (.iload_n 2, 1) := by decide +kernel
theorem dX6_ahead_85 : decode cX6_ahead 85 = .ok (.tableswitch 65 0 3 #[31, 40, 49, 57], 31) := by decide +kernel
theorem dX6_ahead_116 : decode cX6_ahead 116 = .ok (.aload_n 0, 1) := by decide +kernel
theorem dX6_ahead_117 : decode cX6_ahead 117 = .ok (.getfield 23, 3) := by decide +kernel
theorem dX6_ahead_120 : decode cX6_ahead 120 = .ok (.iconst 1, 1) := by decide +kernel
theorem dX6_ahead_121 : decode cX6_ahead 121 = .ok (.invokevirtual 180, 3) := by decide +kernel
theorem dX6_ahead_124 : decode cX6_ahead 124 = .ok (.ireturn, 1) := by decide +kernel
theorem dX6_ahead_125 : decode cX6_ahead 125 = .ok (.aload_n 0, 1) := by decide +kernel
theorem dX6_ahead_126 : decode cX6_ahead 126 = .ok (.getfield 23, 3) := by decide +kernel
theorem dX6_ahead_129 : decode cX6_ahead 129 = .ok (.iconst 2, 1) := by decide +kernel
theorem dX6_ahead_130 : decode cX6_ahead 130 = .ok (.invokevirtual 180, 3) := by decide +kernel
theorem dX6_ahead_133 : decode cX6_ahead 133 = .ok (.ireturn, 1) := by decide +kernel
theorem dX6_ahead_134 : decode cX6_ahead 134 = .ok (.aload_n 0, 1) := by decide +kernel
theorem dX6_ahead_135 : decode cX6_ahead 135 = .ok (.getfield 23, 3) := by decide +kernel
theorem dX6_ahead_138 : decode cX6_ahead 138 = .ok (.invokevirtual 198, 3) := by decide +kernel
theorem dX6_ahead_141 : decode cX6_ahead 141 = .ok (.ireturn, 1) := by decide +kernel
theorem dX6_ahead_142 : decode cX6_ahead 142 = .ok (.aload_n 0, 1) := by decide +kernel
theorem dX6_ahead_143 : decode cX6_ahead 143 = .ok (.getfield 23, 3) := by decide +kernel
theorem dX6_ahead_146 : decode cX6_ahead 146 = .ok (.invokevirtual 201, 3) := by decide +kernel
theorem dX6_ahead_149 : decode cX6_ahead 149 = .ok (.ireturn, 1) := by decide +kernel
theorem dX6_ahead_150 : decode cX6_ahead 150 = .ok (.aload_n 0, 1) := by decide +kernel
theorem dX6_ahead_151 : decode cX6_ahead 151 = .ok (.getfield 23, 3) := by decide +kernel
theorem dX6_ahead_154 : decode cX6_ahead 154 = .ok (.getfield 120, 3) := by decide +kernel
theorem dX6_ahead_157 : decode cX6_ahead 157 = .ok (.iload_n 2, 1) := by decide +kernel
theorem dX6_ahead_158 : decode cX6_ahead 158 = .ok (.iconst 4, 1) := by decide +kernel
theorem dX6_ahead_159 : decode cX6_ahead 159 = .ok (.isub, 1) := by decide +kernel
theorem dX6_ahead_160 : decode cX6_ahead 160 = .ok (.aaload, 1) := by decide +kernel
theorem dX6_ahead_161 : decode cX6_ahead 161 = .ok (.getfield 138, 3) := by decide +kernel
theorem dX6_ahead_164 : decode cX6_ahead 164 = .ok (.ireturn, 1) := by decide +kernel
theorem dX6_meet_0 : decode cX6_meet 0 = .ok (.aload_n 0, 1) := by decide +kernel
theorem dX6_meet_1 : decode cX6_meet 1 = .ok (.getfield 12, 3) := by decide +kernel
theorem dX6_meet_4 : decode cX6_meet 4 = .ok (.getfield 177, 3) := by decide +kernel
theorem dX6_meet_7 : decode cX6_meet 7 = .ok (.sipush 9799, 3) := by decide +kernel
theorem dX6_meet_10 : decode cX6_meet 10 = .ok (.if_icmp .le 10, 3) := by decide +kernel
theorem dX6_meet_13 : decode cX6_meet 13 = .ok (.aload_n 0, 1) := by decide +kernel
theorem dX6_meet_14 : decode cX6_meet 14 = .ok (.ldc 169, 2) := by decide +kernel
theorem dX6_meet_16 : decode cX6_meet 16 = .ok (.invokevirtual 72, 3) := by decide +kernel
theorem dX6_meet_19 : decode cX6_meet 19 = .ok (.ireturn, 1) := by decide +kernel
theorem dX6_meet_20 : decode cX6_meet 20 = .ok (.aload_n 0, 1) := by decide +kernel
theorem dX6_meet_21 : decode cX6_meet 21 = .ok (.getfield 23, 3) := by decide +kernel
theorem dX6_meet_24 : decode cX6_meet 24 = .ok (.aload_n 0, 1) := by decide +kernel
theorem dX6_meet_25 : decode cX6_meet 25 = .ok (.getfield 12, 3) := by decide +kernel
theorem dX6_meet_28 : decode cX6_meet 28 = .ok (.invokevirtual 194, 3) := by decide +kernel
theorem dX6_meet_31 : decode cX6_meet 31 = .ok (.aload_n 0, 1) := by decide +kernel
theorem dX6_meet_32 : decode cX6_meet 32 = .ok (.getfield 23, 3) := by decide +kernel
theorem dX6_meet_35 : decode cX6_meet 35 = .ok (.sipush 200, 3) := by decide +kernel
theorem dX6_meet_38 : decode cX6_meet 38 = .ok (.invokevirtual 204, 3) := by decide +kernel
theorem dX6_meet_41 : decode cX6_meet 41 = .ok (.istore_n 1, 1) := by decide +kernel
theorem dX6_meet_42 : decode cX6_meet 42 = .ok (.iload_n 1, 1) := by decide +kernel
theorem dX6_meet_43 : decode cX6_meet 43 = .ok (.ifCond .ne 12, 3) := by decide +kernel
theorem dX6_meet_46 : decode cX6_meet 46 = .ok (.aload_n 0, 1) := by decide +kernel
theorem dX6_meet_47 : decode cX6_meet 47 = .ok (.ldc 207, 2) := by decide +kernel
theorem dX6_meet_49 : decode cX6_meet 49 = .ok (.invokevirtual 72, 3) := by decide +kernel
theorem dX6_meet_52 : decode cX6_meet 52 = .ok (.goto 4, 3) := by decide +kernel
theorem dX6_meet_55 : decode cX6_meet 55 = .ok (.iload_n 1, 1) := by decide +kernel
theorem dX6_meet_56 : decode cX6_meet 56 = .ok (.ireturn, 1) := by decide +kernel
theorem dX6_ends_0 : decode cX6_ends 0 = .ok (.aload_n 0, 1) := by decide +kernel
theorem dX6_ends_1 : decode cX6_ends 1 = .ok (.iload_n 1, 1) := by decide +kernel
theorem dX6_ends_2 : decode cX6_ends 2 = .ok (.invokevirtual 208, 3) := by decide +kernel
theorem dX6_ends_5 : decode cX6_ends 5 = .ok (.istore_n 2, 1) := by decide +kernel
theorem dX6_ends_6 : decode cX6_ends 6 = .ok (.iload_n 2, 1) := by decide +kernel
theorem dX6_ends_7 : decode cX6_ends 7 = .ok (.ifCond .eq 9, 3) := by decide +kernel
theorem dX6_ends_10 : decode cX6_ends 10 = .ok (.aload_n 0, 1) := by decide +kernel
theorem dX6_ends_11 : decode cX6_ends 11 = .ok (.iload_n 2, 1) := by decide +kernel
theorem dX6_ends_12 : decode cX6_ends 12 = .ok (.invokevirtual 72, 3) := by decide +kernel
theorem dX6_ends_15 : decode cX6_ends 15 = .ok (.ireturn, 1) := by decide +kernel
theorem dX6_ends_16 : decode cX6_ends 16 = .ok (.aload_n 0, 1) := by decide +kernel
theorem dX6_ends_17 : decode cX6_ends 17 = .ok (.getfield 32, 3) := by decide +kernel
theorem dX6_ends_20 : decode cX6_ends 20 = .ok (.aload_n 0, 1) := by decide +kernel
theorem dX6_ends_21 : decode cX6_ends 21 = .ok (.getfield 12, 3) := by decide +kernel
theorem dX6_ends_24 : decode cX6_ends 24 = .ok (.aload_n 0, 1) := by decide +kernel
theorem dX6_ends_25 : decode cX6_ends 25 = .ok (.getfield 12, 3) := by decide +kernel
theorem dX6_ends_28 : decode cX6_ends 28 = .ok (.getfield 120, 3) := by decide +kernel
theorem dX6_ends_31 : decode cX6_ends 31 = .ok (.iload_n 1, 1) := by decide +kernel
theorem dX6_ends_32 : decode cX6_ends 32 = .ok (.aaload, 1) := by decide +kernel
theorem dX6_ends_33 : decode cX6_ends 33 = .ok (.invokevirtual 211, 3) := by decide +kernel
theorem dX6_ends_36 : decode cX6_ends 36 = .ok (.aload_n 0, 1) := by decide +kernel
theorem dX6_ends_37 : decode cX6_ends 37 = .ok (.getfield 32, 3) := by decide +kernel
theorem dX6_ends_40 : decode cX6_ends 40 = .ok (.invokevirtual 215, 3) := by decide +kernel
theorem dX6_ends_43 : decode cX6_ends 43 = .ok (.ifCond .eq 12, 3) := by decide +kernel
theorem dX6_ends_46 : decode cX6_ends 46 = .ok (.aload_n 0, 1) := by decide +kernel
theorem dX6_ends_47 : decode cX6_ends 47 = .ok (.ldc 207, 2) := by decide +kernel
theorem dX6_ends_49 : decode cX6_ends 49 = .ok (.invokevirtual 72, 3) := by decide +kernel
theorem dX6_ends_52 : decode cX6_ends 52 = .ok (.goto 10, 3) := by decide +kernel
theorem dX6_ends_55 : decode cX6_ends 55 = .ok (.aload_n 0, 1) := by decide +kernel
theorem dX6_ends_56 : decode cX6_ends 56 = .ok (.getfield 32, 3) := by decide +kernel
theorem dX6_ends_59 : decode cX6_ends 59 = .ok (.invokevirtual 218, 3) := by decide +kernel
theorem dX6_ends_62 : decode cX6_ends 62 = .ok (.ireturn, 1) := by decide +kernel
theorem dX6_takes_0 : decode cX6_takes 0 = .ok (.aload_n 0, 1) := by decide +kernel
theorem dX6_takes_1 : decode cX6_takes 1 = .ok (.iload_n 1, 1) := by decide +kernel
theorem dX6_takes_2 : decode cX6_takes 2 = .ok (.invokevirtual 208, 3) := by decide +kernel
theorem dX6_takes_5 : decode cX6_takes 5 = .ok (.istore_n 2, 1) := by decide +kernel
theorem dX6_takes_6 : decode cX6_takes 6 = .ok (.iload_n 2, 1) := by decide +kernel
theorem dX6_takes_7 : decode cX6_takes 7 = .ok (.ifCond .eq 9, 3) := by decide +kernel
theorem dX6_takes_10 : decode cX6_takes 10 = .ok (.aload_n 0, 1) := by decide +kernel
theorem dX6_takes_11 : decode cX6_takes 11 = .ok (.iload_n 2, 1) := by decide +kernel
theorem dX6_takes_12 : decode cX6_takes 12 = .ok (.invokevirtual 72, 3) := by decide +kernel
theorem dX6_takes_15 : decode cX6_takes 15 = .ok (.ireturn, 1) := by decide +kernel
theorem dX6_takes_16 : decode cX6_takes 16 = .ok (.aload_n 0, 1) := by decide +kernel
theorem dX6_takes_17 : decode cX6_takes 17 = .ok (.getfield 32, 3) := by decide +kernel
theorem dX6_takes_20 : decode cX6_takes 20 = .ok (.aload_n 0, 1) := by decide +kernel
theorem dX6_takes_21 : decode cX6_takes 21 = .ok (.getfield 12, 3) := by decide +kernel
theorem dX6_takes_24 : decode cX6_takes 24 = .ok (.aload_n 0, 1) := by decide +kernel
theorem dX6_takes_25 : decode cX6_takes 25 = .ok (.getfield 12, 3) := by decide +kernel
theorem dX6_takes_28 : decode cX6_takes 28 = .ok (.getfield 120, 3) := by decide +kernel
theorem dX6_takes_31 : decode cX6_takes 31 = .ok (.iload_n 1, 1) := by decide +kernel
theorem dX6_takes_32 : decode cX6_takes 32 = .ok (.aaload, 1) := by decide +kernel
theorem dX6_takes_33 : decode cX6_takes 33 = .ok (.invokevirtual 211, 3) := by decide +kernel
theorem dX6_takes_36 : decode cX6_takes 36 = .ok (.aload_n 0, 1) := by decide +kernel
theorem dX6_takes_37 : decode cX6_takes 37 = .ok (.getfield 32, 3) := by decide +kernel
theorem dX6_takes_40 : decode cX6_takes 40 = .ok (.invokevirtual 215, 3) := by decide +kernel
theorem dX6_takes_43 : decode cX6_takes 43 = .ok (.ifCond .eq 12, 3) := by decide +kernel
theorem dX6_takes_46 : decode cX6_takes 46 = .ok (.aload_n 0, 1) := by decide +kernel
theorem dX6_takes_47 : decode cX6_takes 47 = .ok (.ldc 207, 2) := by decide +kernel
theorem dX6_takes_49 : decode cX6_takes 49 = .ok (.invokevirtual 72, 3) := by decide +kernel
theorem dX6_takes_52 : decode cX6_takes 52 = .ok (.goto 10, 3) := by decide +kernel
theorem dX6_takes_55 : decode cX6_takes 55 = .ok (.aload_n 0, 1) := by decide +kernel
theorem dX6_takes_56 : decode cX6_takes 56 = .ok (.getfield 32, 3) := by decide +kernel
theorem dX6_takes_59 : decode cX6_takes 59 = .ok (.getfield 221, 3) := by decide +kernel
theorem dX6_takes_62 : decode cX6_takes 62 = .ok (.ireturn, 1) := by decide +kernel
theorem dX6_speed_0 : decode cX6_speed 0 = .ok (.aload_n 0, 1) := by decide +kernel
theorem dX6_speed_1 : decode cX6_speed 1 = .ok (.iload_n 1, 1) := by decide +kernel
theorem dX6_speed_2 : decode cX6_speed 2 = .ok (.invokevirtual 208, 3) := by decide +kernel
theorem dX6_speed_5 : decode cX6_speed 5 = .ok (.istore_n 2, 1) := by decide +kernel
theorem dX6_speed_6 : decode cX6_speed 6 = .ok (.iload_n 2, 1) := by decide +kernel
theorem dX6_speed_7 : decode cX6_speed 7 = .ok (.ifCond .eq 9, 3) := by decide +kernel
theorem dX6_speed_10 : decode cX6_speed 10 = .ok (.aload_n 0, 1) := by decide +kernel
theorem dX6_speed_11 : decode cX6_speed 11 = .ok (.iload_n 2, 1) := by decide +kernel
theorem dX6_speed_12 : decode cX6_speed 12 = .ok (.invokevirtual 72, 3) := by decide +kernel
theorem dX6_speed_15 : decode cX6_speed 15 = .ok (.ireturn, 1) := by decide +kernel
theorem dX6_speed_16 : decode cX6_speed 16 = .ok (.aload_n 0, 1) := by decide +kernel
theorem dX6_speed_17 : decode cX6_speed 17 = .ok (.getfield 32, 3) := by decide +kernel
theorem dX6_speed_20 : decode cX6_speed 20 = .ok (.aload_n 0, 1) := by decide +kernel
theorem dX6_speed_21 : decode cX6_speed 21 = .ok (.getfield 12, 3) := by decide +kernel
theorem dX6_speed_24 : decode cX6_speed 24 = .ok (.aload_n 0, 1) := by decide +kernel
theorem dX6_speed_25 : decode cX6_speed 25 = .ok (.getfield 12, 3) := by decide +kernel
theorem dX6_speed_28 : decode cX6_speed 28 = .ok (.getfield 120, 3) := by decide +kernel
theorem dX6_speed_31 : decode cX6_speed 31 = .ok (.iload_n 1, 1) := by decide +kernel
theorem dX6_speed_32 : decode cX6_speed 32 = .ok (.aaload, 1) := by decide +kernel
theorem dX6_speed_33 : decode cX6_speed 33 = .ok (.invokevirtual 211, 3) := by decide +kernel
theorem dX6_speed_36 : decode cX6_speed 36 = .ok (.aload_n 0, 1) := by decide +kernel
theorem dX6_speed_37 : decode cX6_speed 37 = .ok (.getfield 32, 3) := by decide +kernel
theorem dX6_speed_40 : decode cX6_speed 40 = .ok (.getfield 224, 3) := by decide +kernel
theorem dX6_speed_43 : decode cX6_speed 43 = .ok (.ireturn, 1) := by decide +kernel
theorem dX6_seen_0 : decode cX6_seen 0 = .ok (.aload_n 0, 1) := by decide +kernel
theorem dX6_seen_1 : decode cX6_seen 1 = .ok (.iload_n 1, 1) := by decide +kernel
theorem dX6_seen_2 : decode cX6_seen 2 = .ok (.invokevirtual 208, 3) := by decide +kernel
theorem dX6_seen_5 : decode cX6_seen 5 = .ok (.istore_n 2, 1) := by decide +kernel
theorem dX6_seen_6 : decode cX6_seen 6 = .ok (.iload_n 2, 1) := by decide +kernel
theorem dX6_seen_7 : decode cX6_seen 7 = .ok (.ifCond .eq 9, 3) := by decide +kernel
theorem dX6_seen_10 : decode cX6_seen 10 = .ok (.aload_n 0, 1) := by decide +kernel
theorem dX6_seen_11 : decode cX6_seen 11 = .ok (.iload_n 2, 1) := by decide +kernel
theorem dX6_seen_12 : decode cX6_seen 12 = .ok (.invokevirtual 72, 3) := by decide +kernel
theorem dX6_seen_15 : decode cX6_seen 15 = .ok (.ireturn, 1) := by decide +kernel
theorem dX6_seen_16 : decode cX6_seen 16 = .ok (.aload_n 0, 1) := by decide +kernel
theorem dX6_seen_17 : decode cX6_seen 17 = .ok (.getfield 32, 3) := by decide +kernel
theorem dX6_seen_20 : decode cX6_seen 20 = .ok (.aload_n 0, 1) := by decide +kernel
theorem dX6_seen_21 : decode cX6_seen 21 = .ok (.getfield 12, 3) := by decide +kernel
theorem dX6_seen_24 : decode cX6_seen 24 = .ok (.aload_n 0, 1) := by decide +kernel
theorem dX6_seen_25 : decode cX6_seen 25 = .ok (.getfield 12, 3) := by decide +kernel
theorem dX6_seen_28 : decode cX6_seen 28 = .ok (.getfield 120, 3) := by decide +kernel
theorem dX6_seen_31 : decode cX6_seen 31 = .ok (.iload_n 1, 1) := by decide +kernel
theorem dX6_seen_32 : decode cX6_seen 32 = .ok (.aaload, 1) := by decide +kernel
theorem dX6_seen_33 : decode cX6_seen 33 = .ok (.invokevirtual 211, 3) := by decide +kernel
theorem dX6_seen_36 : decode cX6_seen 36 = .ok (.aload_n 0, 1) := by decide +kernel
theorem dX6_seen_37 : decode cX6_seen 37 = .ok (.getfield 32, 3) := by decide +kernel
theorem dX6_seen_40 : decode cX6_seen 40 = .ok (.getfield 227, 3) := by decide +kernel
theorem dX6_seen_43 : decode cX6_seen 43 = .ok (.ireturn, 1) := by decide +kernel
theorem dX6_sand_0 : decode cX6_sand 0 = .ok (.iload_n 2, 1) := by decide +kernel
theorem dX6_sand_1 : decode cX6_sand 1 = .ok (.invokestatic 64, 3) := by decide +kernel
theorem dX6_sand_4 : decode cX6_sand 4 = .ok (.ifCond .ne 10, 3) := by decide +kernel
theorem dX6_sand_7 : decode cX6_sand 7 = .ok (.aload_n 0, 1) := by decide +kernel
theorem dX6_sand_8 : decode cX6_sand 8 = .ok (.ldc 71, 2) := by decide +kernel
theorem dX6_sand_10 : decode cX6_sand 10 = .ok (.invokevirtual 72, 3) := by decide +kernel
theorem dX6_sand_13 : decode cX6_sand 13 = .ok (.ireturn, 1) := by decide +kernel
theorem dX6_sand_14 : decode cX6_sand 14 = .ok (.aload_n 0, 1) := by decide +kernel
theorem dX6_sand_15 : decode cX6_sand 15 = .ok (.iload_n 1, 1) := by decide +kernel
theorem dX6_sand_16 : decode cX6_sand 16 = .ok (.invokevirtual 208, 3) := by decide +kernel
theorem dX6_sand_19 : decode cX6_sand 19 = .ok (.istore_n 3, 1) := by decide +kernel
theorem dX6_sand_20 : decode cX6_sand 20 = .ok (.iload_n 3, 1) := by decide +kernel
theorem dX6_sand_21 : decode cX6_sand 21 = .ok (.ifCond .eq 9, 3) := by decide +kernel
theorem dX6_sand_24 : decode cX6_sand 24 = .ok (.aload_n 0, 1) := by decide +kernel
theorem dX6_sand_25 : decode cX6_sand 25 = .ok (.iload_n 3, 1) := by decide +kernel
theorem dX6_sand_26 : decode cX6_sand 26 = .ok (.invokevirtual 72, 3) := by decide +kernel
theorem dX6_sand_29 : decode cX6_sand 29 = .ok (.ireturn, 1) := by decide +kernel
theorem dX6_sand_30 : decode cX6_sand 30 = .ok (.iconst 0, 1) := by decide +kernel
theorem dX6_sand_31 : decode cX6_sand 31 = .ok (.istore 4, 2) := by decide +kernel
theorem dX6_sand_33 : decode cX6_sand 33 = .ok (.iload 4, 2) := by decide +kernel
theorem dX6_sand_35 : decode cX6_sand 35 = .ok (.bipush 31, 2) := by decide +kernel
theorem dX6_sand_37 : decode cX6_sand 37 = .ok (.if_icmp .ge 31, 3) := by decide +kernel
theorem dX6_sand_40 : decode cX6_sand 40 = .ok (.aload_n 0, 1) := by decide +kernel
theorem dX6_sand_41 : decode cX6_sand 41 = .ok (.iload_n 1, 1) := by decide +kernel
theorem dX6_sand_42 : decode cX6_sand 42 = .ok (.iload 4, 2) := by decide +kernel
theorem dX6_sand_44 : decode cX6_sand 44 = .ok (.iconst 1, 1) := by decide +kernel
theorem dX6_sand_45 : decode cX6_sand 45 = .ok (.invokevirtual 230, 3) := by decide +kernel
theorem dX6_sand_48 : decode cX6_sand 48 = .ok (.aload_n 0, 1) := by decide +kernel
theorem dX6_sand_49 : decode cX6_sand 49 = .ok (.getfield 32, 3) := by decide +kernel
theorem dX6_sand_52 : decode cX6_sand 52 = .ok (.iload_n 2, 1) := by decide +kernel
theorem dX6_sand_53 : decode cX6_sand 53 = .ok (.invokevirtual 234, 3) := by decide +kernel
theorem dX6_sand_56 : decode cX6_sand 56 = .ok (.ifCond .eq 6, 3) := by decide +kernel
theorem dX6_sand_59 : decode cX6_sand 59 = .ok (.iload 4, 2) := by decide +kernel
theorem dX6_sand_61 : decode cX6_sand 61 = .ok (.ireturn, 1) := by decide +kernel
theorem dX6_sand_62 : decode cX6_sand 62 = .ok (.iinc 4 1, 3) := by decide +kernel
theorem dX6_sand_65 : decode cX6_sand 65 = .ok (.goto (-32), 3) := by decide +kernel
theorem dX6_sand_68 : decode cX6_sand 68 = .ok (.aload_n 0, 1) := by decide +kernel
theorem dX6_sand_69 : decode cX6_sand 69 = .ok (.ldc 207, 2) := by decide +kernel
theorem dX6_sand_71 : decode cX6_sand 71 = .ok (.invokevirtual 72, 3) := by decide +kernel
theorem dX6_sand_74 : decode cX6_sand 74 = .ok (.ireturn, 1) := by decide +kernel
theorem dX6_rollsFor_0 : decode cX6_rollsFor 0 = .ok (.aload_n 0, 1) := by decide +kernel
theorem dX6_rollsFor_1 : decode cX6_rollsFor 1 = .ok (.iload_n 1, 1) := by decide +kernel
theorem dX6_rollsFor_2 : decode cX6_rollsFor 2 = .ok (.invokevirtual 208, 3) := by decide +kernel
theorem dX6_rollsFor_5 : decode cX6_rollsFor 5 = .ok (.istore_n 2, 1) := by decide +kernel
theorem dX6_rollsFor_6 : decode cX6_rollsFor 6 = .ok (.iload_n 2, 1) := by decide +kernel
theorem dX6_rollsFor_7 : decode cX6_rollsFor 7 = .ok (.ifCond .eq 9, 3) := by decide +kernel
theorem dX6_rollsFor_10 : decode cX6_rollsFor 10 = .ok (.aload_n 0, 1) := by decide +kernel
theorem dX6_rollsFor_11 : decode cX6_rollsFor 11 = .ok (.iload_n 2, 1) := by decide +kernel
theorem dX6_rollsFor_12 : decode cX6_rollsFor 12 = .ok (.invokevirtual 72, 3) := by decide +kernel
theorem dX6_rollsFor_15 : decode cX6_rollsFor 15 = .ok (.ireturn, 1) := by decide +kernel
theorem dX6_rollsFor_16 : decode cX6_rollsFor 16 = .ok (.aload_n 0, 1) := by decide +kernel
theorem dX6_rollsFor_17 : decode cX6_rollsFor 17 = .ok (.getfield 23, 3) := by decide +kernel
theorem dX6_rollsFor_20 : decode cX6_rollsFor 20 = .ok (.aload_n 0, 1) := by decide +kernel
theorem dX6_rollsFor_21 : decode cX6_rollsFor 21 = .ok (.getfield 12, 3) := by decide +kernel
theorem dX6_rollsFor_24 : decode cX6_rollsFor 24 = .ok (.invokevirtual 194, 3) := by decide +kernel
theorem dX6_rollsFor_27 : decode cX6_rollsFor 27 = .ok (.iconst 1, 1) := by decide +kernel
theorem dX6_rollsFor_28 : decode cX6_rollsFor 28 = .ok (.istore_n 3, 1) := by decide +kernel
theorem dX6_rollsFor_29 : decode cX6_rollsFor 29 = .ok (.iload_n 3, 1) := by decide +kernel
theorem dX6_rollsFor_30 : decode cX6_rollsFor 30 = .ok (.bipush 9, 2) := by decide +kernel
theorem dX6_rollsFor_32 : decode cX6_rollsFor 32 = .ok (.if_icmp .gt 56, 3) := by decide +kernel
theorem dX6_rollsFor_35 : decode cX6_rollsFor 35 = .ok (.aload_n 0, 1) := by decide +kernel
theorem dX6_rollsFor_36 : decode cX6_rollsFor 36 = .ok (.getfield 23, 3) := by decide +kernel
theorem dX6_rollsFor_39 : decode cX6_rollsFor 39 = .ok (.getfield 120, 3) := by decide +kernel
theorem dX6_rollsFor_42 : decode cX6_rollsFor 42 = .ok (.iload_n 1, 1) := by decide +kernel
theorem dX6_rollsFor_43 : decode cX6_rollsFor 43 = .ok (.aaload, 1) := by decide +kernel
theorem dX6_rollsFor_44 : decode cX6_rollsFor 44 = .ok (.iload_n 3, 1) := by decide +kernel
theorem dX6_rollsFor_45 : decode cX6_rollsFor 45 = .ok (.putfield 132, 3) := by decide +kernel
theorem dX6_rollsFor_48 : decode cX6_rollsFor 48 = .ok (.aload_n 0, 1) := by decide +kernel
theorem dX6_rollsFor_49 : decode cX6_rollsFor 49 = .ok (.getfield 32, 3) := by decide +kernel
theorem dX6_rollsFor_52 : decode cX6_rollsFor 52 = .ok (.aload_n 0, 1) := by decide +kernel
theorem dX6_rollsFor_53 : decode cX6_rollsFor 53 = .ok (.getfield 23, 3) := by decide +kernel
theorem dX6_rollsFor_56 : decode cX6_rollsFor 56 = .ok (.aload_n 0, 1) := by decide +kernel
theorem dX6_rollsFor_57 : decode cX6_rollsFor 57 = .ok (.getfield 23, 3) := by decide +kernel
theorem dX6_rollsFor_60 : decode cX6_rollsFor 60 = .ok (.getfield 120, 3) := by decide +kernel
theorem dX6_rollsFor_63 : decode cX6_rollsFor 63 = .ok (.iload_n 1, 1) := by decide +kernel
theorem dX6_rollsFor_64 : decode cX6_rollsFor 64 = .ok (.aaload, 1) := by decide +kernel
theorem dX6_rollsFor_65 : decode cX6_rollsFor 65 = .ok (.invokevirtual 211, 3) := by decide +kernel
theorem dX6_rollsFor_68 : decode cX6_rollsFor 68 = .ok (.aload_n 0, 1) := by decide +kernel
theorem dX6_rollsFor_69 : decode cX6_rollsFor 69 = .ok (.getfield 32, 3) := by decide +kernel
theorem dX6_rollsFor_72 : decode cX6_rollsFor 72 = .ok (.bipush 30, 2) := by decide +kernel
theorem dX6_rollsFor_74 : decode cX6_rollsFor 74 = .ok (.invokevirtual 234, 3) := by decide +kernel
theorem dX6_rollsFor_77 : decode cX6_rollsFor 77 = .ok (.ifCond .eq 5, 3) := by decide +kernel
theorem dX6_rollsFor_80 : decode cX6_rollsFor 80 = .ok (.iload_n 3, 1) := by decide +kernel
theorem dX6_rollsFor_81 : decode cX6_rollsFor 81 = .ok (.ireturn, 1) := by decide +kernel
theorem dX6_rollsFor_82 : decode cX6_rollsFor 82 = .ok (.iinc 3 1, 3) := by decide +kernel
theorem dX6_rollsFor_85 : decode cX6_rollsFor 85 = .ok (.goto (-56), 3) := by decide +kernel
theorem dX6_rollsFor_88 : decode cX6_rollsFor 88 = .ok (.aload_n 0, 1) := by decide +kernel
theorem dX6_rollsFor_89 : decode cX6_rollsFor 89 = .ok (.ldc 207, 2) := by decide +kernel
theorem dX6_rollsFor_91 : decode cX6_rollsFor 91 = .ok (.invokevirtual 72, 3) := by decide +kernel
theorem dX6_rollsFor_94 : decode cX6_rollsFor 94 = .ok (.ireturn, 1) := by decide +kernel
theorem dX6_matters_0 : decode cX6_matters 0 = .ok (.aload_n 0, 1) := by decide +kernel
theorem dX6_matters_1 : decode cX6_matters 1 = .ok (.iload_n 1, 1) := by decide +kernel
theorem dX6_matters_2 : decode cX6_matters 2 = .ok (.invokevirtual 208, 3) := by decide +kernel
theorem dX6_matters_5 : decode cX6_matters 5 = .ok (.istore_n 2, 1) := by decide +kernel
theorem dX6_matters_6 : decode cX6_matters 6 = .ok (.iload_n 2, 1) := by decide +kernel
theorem dX6_matters_7 : decode cX6_matters 7 = .ok (.ifCond .eq 9, 3) := by decide +kernel
theorem dX6_matters_10 : decode cX6_matters 10 = .ok (.aload_n 0, 1) := by decide +kernel
theorem dX6_matters_11 : decode cX6_matters 11 = .ok (.iload_n 2, 1) := by decide +kernel
theorem dX6_matters_12 : decode cX6_matters 12 = .ok (.invokevirtual 72, 3) := by decide +kernel
theorem dX6_matters_15 : decode cX6_matters 15 = .ok (.ireturn, 1) := by decide +kernel
theorem dX6_matters_16 : decode cX6_matters 16 = .ok (.aload_n 0, 1) := by decide +kernel
theorem dX6_matters_17 : decode cX6_matters 17 = .ok (.getfield 32, 3) := by decide +kernel
theorem dX6_matters_20 : decode cX6_matters 20 = .ok (.aload_n 0, 1) := by decide +kernel
theorem dX6_matters_21 : decode cX6_matters 21 = .ok (.getfield 12, 3) := by decide +kernel
theorem dX6_matters_24 : decode cX6_matters 24 = .ok (.aload_n 0, 1) := by decide +kernel
theorem dX6_matters_25 : decode cX6_matters 25 = .ok (.getfield 12, 3) := by decide +kernel
theorem dX6_matters_28 : decode cX6_matters 28 = .ok (.getfield 120, 3) := by decide +kernel
theorem dX6_matters_31 : decode cX6_matters 31 = .ok (.iload_n 1, 1) := by decide +kernel
theorem dX6_matters_32 : decode cX6_matters 32 = .ok (.aaload, 1) := by decide +kernel
theorem dX6_matters_33 : decode cX6_matters 33 = .ok (.invokevirtual 211, 3) := by decide +kernel
theorem dX6_matters_36 : decode cX6_matters 36 = .ok (.aload_n 0, 1) := by decide +kernel
theorem dX6_matters_37 : decode cX6_matters 37 = .ok (.getfield 32, 3) := by decide +kernel
theorem dX6_matters_40 : decode cX6_matters 40 = .ok (.invokevirtual 218, 3) := by decide +kernel
theorem dX6_matters_43 : decode cX6_matters 43 = .ok (.istore_n 3, 1) := by decide +kernel
theorem dX6_matters_44 : decode cX6_matters 44 = .ok (.iconst 0, 1) := by decide +kernel
theorem dX6_matters_45 : decode cX6_matters 45 = .ok (.istore 4, 2) := by decide +kernel
theorem dX6_matters_47 : decode cX6_matters 47 = .ok (.iconst 0, 1) := by decide +kernel
theorem dX6_matters_48 : decode cX6_matters 48 = .ok (.istore 5, 2) := by decide +kernel
theorem dX6_matters_50 : decode cX6_matters 50 = .ok (.iload 5, 2) := by decide +kernel
theorem dX6_matters_52 : decode cX6_matters 52 = .ok (.bipush 31, 2) := by decide +kernel
theorem dX6_matters_54 : decode cX6_matters 54 = .ok (.if_icmp .ge 37, 3) := by decide +kernel
theorem dX6_matters_57 : decode cX6_matters 57 = .ok (.aload_n 0, 1) := by decide +kernel
theorem dX6_matters_58 : decode cX6_matters 58 = .ok (.iload_n 1, 1) := by decide +kernel
theorem dX6_matters_59 : decode cX6_matters 59 = .ok (.iload 5, 2) := by decide +kernel
theorem dX6_matters_61 : decode cX6_matters 61 = .ok (.iconst 0, 1) := by decide +kernel
theorem dX6_matters_62 : decode cX6_matters 62 = .ok (.invokevirtual 230, 3) := by decide +kernel
theorem dX6_matters_65 : decode cX6_matters 65 = .ok (.aload_n 0, 1) := by decide +kernel
theorem dX6_matters_66 : decode cX6_matters 66 = .ok (.getfield 32, 3) := by decide +kernel
theorem dX6_matters_69 : decode cX6_matters 69 = .ok (.invokevirtual 218, 3) := by decide +kernel
theorem dX6_matters_72 : decode cX6_matters 72 = .ok (.iload_n 3, 1) := by decide +kernel
theorem dX6_matters_73 : decode cX6_matters 73 = .ok (.if_icmp .eq 12, 3) := by decide +kernel
theorem dX6_matters_76 : decode cX6_matters 76 = .ok (.iload 4, 2) := by decide +kernel
theorem dX6_matters_78 : decode cX6_matters 78 = .ok (.iconst 1, 1) := by decide +kernel
theorem dX6_matters_79 : decode cX6_matters 79 = .ok (.iload 5, 2) := by decide +kernel
theorem dX6_matters_81 : decode cX6_matters 81 = .ok (.ishl, 1) := by decide +kernel
theorem dX6_matters_82 : decode cX6_matters 82 = .ok (.ior, 1) := by decide +kernel
theorem dX6_matters_83 : decode cX6_matters 83 = .ok (.istore 4, 2) := by decide +kernel
theorem dX6_matters_85 : decode cX6_matters 85 = .ok (.iinc 5 1, 3) := by decide +kernel
theorem dX6_matters_88 : decode cX6_matters 88 = .ok (.goto (-38), 3) := by decide +kernel
theorem dX6_matters_91 : decode cX6_matters 91 = .ok (.iload 4, 2) := by decide +kernel
theorem dX6_matters_93 : decode cX6_matters 93 = .ok (.ireturn, 1) := by decide +kernel
theorem dX6_kindFor_0 : decode cX6_kindFor 0 = .ok (.aload_n 0, 1) := by decide +kernel
theorem dX6_kindFor_1 : decode cX6_kindFor 1 = .ok (.iload_n 1, 1) := by decide +kernel
theorem dX6_kindFor_2 : decode cX6_kindFor 2 = .ok (.invokevirtual 208, 3) := by decide +kernel
theorem dX6_kindFor_5 : decode cX6_kindFor 5 = .ok (.istore_n 2, 1) := by decide +kernel
theorem dX6_kindFor_6 : decode cX6_kindFor 6 = .ok (.iload_n 2, 1) := by decide +kernel
theorem dX6_kindFor_7 : decode cX6_kindFor 7 = .ok (.ifCond .eq 9, 3) := by decide +kernel
theorem dX6_kindFor_10 : decode cX6_kindFor 10 = .ok (.aload_n 0, 1) := by decide +kernel
theorem dX6_kindFor_11 : decode cX6_kindFor 11 = .ok (.iload_n 2, 1) := by decide +kernel
theorem dX6_kindFor_12 : decode cX6_kindFor 12 = .ok (.invokevirtual 72, 3) := by decide +kernel
theorem dX6_kindFor_15 : decode cX6_kindFor 15 = .ok (.ireturn, 1) := by decide +kernel
theorem dX6_kindFor_16 : decode cX6_kindFor 16 = .ok (.aload_n 0, 1) := by decide +kernel
theorem dX6_kindFor_17 : decode cX6_kindFor 17 = .ok (.getfield 23, 3) := by decide +kernel
theorem dX6_kindFor_20 : decode cX6_kindFor 20 = .ok (.aload_n 0, 1) := by decide +kernel
theorem dX6_kindFor_21 : decode cX6_kindFor 21 = .ok (.getfield 12, 3) := by decide +kernel
theorem dX6_kindFor_24 : decode cX6_kindFor 24 = .ok (.invokevirtual 194, 3) := by decide +kernel
theorem dX6_kindFor_27 : decode cX6_kindFor 27 = .ok (.iconst 0, 1) := by decide +kernel
theorem dX6_kindFor_28 : decode cX6_kindFor 28 = .ok (.istore_n 3, 1) := by decide +kernel
theorem dX6_kindFor_29 : decode cX6_kindFor 29 = .ok (.bipush (-2), 2) := by decide +kernel
theorem dX6_kindFor_31 : decode cX6_kindFor 31 = .ok (.istore 4, 2) := by decide +kernel
theorem dX6_kindFor_33 : decode cX6_kindFor 33 = .ok (.iconst 0, 1) := by decide +kernel
theorem dX6_kindFor_34 : decode cX6_kindFor 34 = .ok (.istore 5, 2) := by decide +kernel
theorem dX6_kindFor_36 : decode cX6_kindFor 36 = .ok (.iload 5, 2) := by decide +kernel
theorem dX6_kindFor_38 : decode cX6_kindFor 38 = .ok (.bipush 7, 2) := by decide +kernel
theorem dX6_kindFor_40 : decode cX6_kindFor 40 = .ok (.if_icmp .ge 67, 3) := by decide +kernel
theorem dX6_kindFor_43 : decode cX6_kindFor 43 = .ok (.aload_n 0, 1) := by decide +kernel
theorem dX6_kindFor_44 : decode cX6_kindFor 44 = .ok (.getfield 23, 3) := by decide +kernel
theorem dX6_kindFor_47 : decode cX6_kindFor 47 = .ok (.getfield 120, 3) := by decide +kernel
theorem dX6_kindFor_50 : decode cX6_kindFor 50 = .ok (.iload_n 1, 1) := by decide +kernel
theorem dX6_kindFor_51 : decode cX6_kindFor 51 = .ok (.aaload, 1) := by decide +kernel
theorem dX6_kindFor_52 : decode cX6_kindFor 52 = .ok (.iload 5, 2) := by decide +kernel
theorem dX6_kindFor_54 : decode cX6_kindFor 54 = .ok (.putfield 124, 3) := by decide +kernel
theorem dX6_kindFor_57 : decode cX6_kindFor 57 = .ok (.aload_n 0, 1) := by decide +kernel
theorem dX6_kindFor_58 : decode cX6_kindFor 58 = .ok (.getfield 32, 3) := by decide +kernel
theorem dX6_kindFor_61 : decode cX6_kindFor 61 = .ok (.aload_n 0, 1) := by decide +kernel
theorem dX6_kindFor_62 : decode cX6_kindFor 62 = .ok (.getfield 23, 3) := by decide +kernel
theorem dX6_kindFor_65 : decode cX6_kindFor 65 = .ok (.aload_n 0, 1) := by decide +kernel
theorem dX6_kindFor_66 : decode cX6_kindFor 66 = .ok (.getfield 23, 3) := by decide +kernel
theorem dX6_kindFor_69 : decode cX6_kindFor 69 = .ok (.getfield 120, 3) := by decide +kernel
theorem dX6_kindFor_72 : decode cX6_kindFor 72 = .ok (.iload_n 1, 1) := by decide +kernel
theorem dX6_kindFor_73 : decode cX6_kindFor 73 = .ok (.aaload, 1) := by decide +kernel
theorem dX6_kindFor_74 : decode cX6_kindFor 74 = .ok (.invokevirtual 211, 3) := by decide +kernel
theorem dX6_kindFor_77 : decode cX6_kindFor 77 = .ok (.aload_n 0, 1) := by decide +kernel
theorem dX6_kindFor_78 : decode cX6_kindFor 78 = .ok (.getfield 32, 3) := by decide +kernel
theorem dX6_kindFor_81 : decode cX6_kindFor 81 = .ok (.invokevirtual 218, 3) := by decide +kernel
theorem dX6_kindFor_84 : decode cX6_kindFor 84 = .ok (.iload 4, 2) := by decide +kernel
theorem dX6_kindFor_86 : decode cX6_kindFor 86 = .ok (.if_icmp .le 15, 3) := by decide +kernel
theorem dX6_kindFor_89 : decode cX6_kindFor 89 = .ok (.aload_n 0, 1) := by decide +kernel
theorem dX6_kindFor_90 : decode cX6_kindFor 90 = .ok (.getfield 32, 3) := by decide +kernel
theorem dX6_kindFor_93 : decode cX6_kindFor 93 = .ok (.invokevirtual 218, 3) := by decide +kernel
theorem dX6_kindFor_96 : decode cX6_kindFor 96 = .ok (.istore 4, 2) := by decide +kernel
theorem dX6_kindFor_98 : decode cX6_kindFor 98 = .ok (.iload 5, 2) := by decide +kernel
theorem dX6_kindFor_100 : decode cX6_kindFor 100 = .ok (.istore_n 3, 1) := by decide +kernel
theorem dX6_kindFor_101 : decode cX6_kindFor 101 = .ok (.iinc 5 1, 3) := by decide +kernel
theorem dX6_kindFor_104 : decode cX6_kindFor 104 = .ok (.goto (-68), 3) := by decide +kernel
theorem dX6_kindFor_107 : decode cX6_kindFor 107 = .ok (.iload_n 3, 1) := by decide +kernel
theorem dX6_kindFor_108 : decode cX6_kindFor 108 = .ok (.ireturn, 1) := by decide +kernel
theorem dX6_wait_0 : decode cX6_wait 0 = .ok (.aload_n 0, 1) := by decide +kernel
theorem dX6_wait_1 : decode cX6_wait 1 = .ok (.iload_n 1, 1) := by decide +kernel
theorem dX6_wait_2 : decode cX6_wait 2 = .ok (.invokevirtual 117, 3) := by decide +kernel
theorem dX6_wait_5 : decode cX6_wait 5 = .ok (.ifCond .ne 10, 3) := by decide +kernel
theorem dX6_wait_8 : decode cX6_wait 8 = .ok (.aload_n 0, 1) := by decide +kernel
theorem dX6_wait_9 : decode cX6_wait 9 = .ok (.ldc 71, 2) := by decide +kernel
theorem dX6_wait_11 : decode cX6_wait 11 = .ok (.invokevirtual 72, 3) := by decide +kernel
theorem dX6_wait_14 : decode cX6_wait 14 = .ok (.ireturn, 1) := by decide +kernel
theorem dX6_wait_15 : decode cX6_wait 15 = .ok (.aload_n 0, 1) := by decide +kernel
theorem dX6_wait_16 : decode cX6_wait 16 = .ok (.getfield 12, 3) := by decide +kernel
theorem dX6_wait_19 : decode cX6_wait 19 = .ok (.getfield 120, 3) := by decide +kernel
theorem dX6_wait_22 : decode cX6_wait 22 = .ok (.iload_n 1, 1) := by decide +kernel
theorem dX6_wait_23 : decode cX6_wait 23 = .ok (.aaload, 1) := by decide +kernel
theorem dX6_wait_24 : decode cX6_wait 24 = .ok (.invokevirtual 166, 3) := by decide +kernel
theorem dX6_wait_27 : decode cX6_wait 27 = .ok (.ifCond .eq 10, 3) := by decide +kernel
theorem dX6_wait_30 : decode cX6_wait 30 = .ok (.aload_n 0, 1) := by decide +kernel
theorem dX6_wait_31 : decode cX6_wait 31 = .ok (.invokevirtual 237, 3) := by decide +kernel
theorem dX6_wait_34 : decode cX6_wait 34 = .ok (.ifCond .eq 10, 3) := by decide +kernel
theorem dX6_wait_37 : decode cX6_wait 37 = .ok (.aload_n 0, 1) := by decide +kernel
theorem dX6_wait_38 : decode cX6_wait 38 = .ok (.ldc 169, 2) := by decide +kernel
theorem dX6_wait_40 : decode cX6_wait 40 = .ok (.invokevirtual 72, 3) := by decide +kernel
theorem dX6_wait_43 : decode cX6_wait 43 = .ok (.ireturn, 1) := by decide +kernel
theorem dX6_wait_44 : decode cX6_wait 44 = .ok (.aload_n 0, 1) := by decide +kernel
theorem dX6_wait_45 : decode cX6_wait 45 = .ok (.getfield 23, 3) := by decide +kernel
theorem dX6_wait_48 : decode cX6_wait 48 = .ok (.aload_n 0, 1) := by decide +kernel
theorem dX6_wait_49 : decode cX6_wait 49 = .ok (.getfield 12, 3) := by decide +kernel
theorem dX6_wait_52 : decode cX6_wait 52 = .ok (.invokevirtual 194, 3) := by decide +kernel
theorem dX6_wait_55 : decode cX6_wait 55 = .ok (.iconst 0, 1) := by decide +kernel
theorem dX6_wait_56 : decode cX6_wait 56 = .ok (.istore_n 2, 1) := by decide +kernel
theorem dX6_wait_57 : decode cX6_wait 57 = .ok (.iload_n 2, 1) := by decide +kernel
theorem dX6_wait_58 : decode cX6_wait 58 = .ok (.bipush 59, 2) := by decide +kernel
theorem dX6_wait_60 : decode cX6_wait 60 = .ok (.if_icmp .gt 57, 3) := by decide +kernel
theorem dX6_wait_63 : decode cX6_wait 63 = .ok (.aload_n 0, 1) := by decide +kernel
theorem dX6_wait_64 : decode cX6_wait 64 = .ok (.getfield 26, 3) := by decide +kernel
theorem dX6_wait_67 : decode cX6_wait 67 = .ok (.aload_n 0, 1) := by decide +kernel
theorem dX6_wait_68 : decode cX6_wait 68 = .ok (.getfield 23, 3) := by decide +kernel
theorem dX6_wait_71 : decode cX6_wait 71 = .ok (.invokevirtual 194, 3) := by decide +kernel
theorem dX6_wait_74 : decode cX6_wait 74 = .ok (.aload_n 0, 1) := by decide +kernel
theorem dX6_wait_75 : decode cX6_wait 75 = .ok (.getfield 26, 3) := by decide +kernel
theorem dX6_wait_78 : decode cX6_wait 78 = .ok (.getfield 120, 3) := by decide +kernel
theorem dX6_wait_81 : decode cX6_wait 81 = .ok (.iload_n 1, 1) := by decide +kernel
theorem dX6_wait_82 : decode cX6_wait 82 = .ok (.aaload, 1) := by decide +kernel
theorem dX6_wait_83 : decode cX6_wait 83 = .ok (.bipush 10, 2) := by decide +kernel
theorem dX6_wait_85 : decode cX6_wait 85 = .ok (.invokevirtual 170, 3) := by decide +kernel
theorem dX6_wait_88 : decode cX6_wait 88 = .ok (.aload_n 0, 1) := by decide +kernel
theorem dX6_wait_89 : decode cX6_wait 89 = .ok (.getfield 26, 3) := by decide +kernel
theorem dX6_wait_92 : decode cX6_wait 92 = .ok (.sipush 200, 3) := by decide +kernel
theorem dX6_wait_95 : decode cX6_wait 95 = .ok (.invokevirtual 204, 3) := by decide +kernel
theorem dX6_wait_98 : decode cX6_wait 98 = .ok (.ifCond .ne 5, 3) := by decide +kernel
theorem dX6_wait_101 : decode cX6_wait 101 = .ok (.iload_n 2, 1) := by decide +kernel
theorem dX6_wait_102 : decode cX6_wait 102 = .ok (.ireturn, 1) := by decide +kernel
theorem dX6_wait_103 : decode cX6_wait 103 = .ok (.aload_n 0, 1) := by decide +kernel
theorem dX6_wait_104 : decode cX6_wait 104 = .ok (.getfield 23, 3) := by decide +kernel
theorem dX6_wait_107 : decode cX6_wait 107 = .ok (.invokevirtual 240, 3) := by decide +kernel
theorem dX6_wait_110 : decode cX6_wait 110 = .ok (.pop, 1) := by decide +kernel
theorem dX6_wait_111 : decode cX6_wait 111 = .ok (.iinc 2 1, 3) := by decide +kernel
theorem dX6_wait_114 : decode cX6_wait 114 = .ok (.goto (-57), 3) := by decide +kernel
theorem dX6_wait_117 : decode cX6_wait 117 = .ok (.aload_n 0, 1) := by decide +kernel
theorem dX6_wait_118 : decode cX6_wait 118 = .ok (.ldc 207, 2) := by decide +kernel
theorem dX6_wait_120 : decode cX6_wait 120 = .ok (.invokevirtual 72, 3) := by decide +kernel
theorem dX6_wait_123 : decode cX6_wait 123 = .ok (.ireturn, 1) := by decide +kernel
theorem dX6_behind_0 : decode cX6_behind 0 = .ok (.aload_n 0, 1) := by decide +kernel
theorem dX6_behind_1 : decode cX6_behind 1 = .ok (.iload_n 1, 1) := by decide +kernel
theorem dX6_behind_2 : decode cX6_behind 2 = .ok (.invokevirtual 117, 3) := by decide +kernel
theorem dX6_behind_5 : decode cX6_behind 5 = .ok (.ifCond .eq 16, 3) := by decide +kernel
theorem dX6_behind_8 : decode cX6_behind 8 = .ok (.aload_n 0, 1) := by decide +kernel
theorem dX6_behind_9 : decode cX6_behind 9 = .ok (.iload_n 2, 1) := by decide +kernel
theorem dX6_behind_10 : decode cX6_behind 10 = .ok (.invokevirtual 117, 3) := by decide +kernel
theorem dX6_behind_13 : decode cX6_behind 13 = .ok (.ifCond .eq 8, 3) := by decide +kernel
theorem dX6_behind_16 : decode cX6_behind 16 = .ok (.iload_n 1, 1) := by decide +kernel
theorem dX6_behind_17 : decode cX6_behind 17 = .ok (.iload_n 2, 1) := by decide +kernel
theorem dX6_behind_18 : decode cX6_behind 18 = .ok (.if_icmp .ne 10, 3) := by decide +kernel
theorem dX6_behind_21 : decode cX6_behind 21 = .ok (.aload_n 0, 1) := by decide +kernel
theorem dX6_behind_22 : decode cX6_behind 22 = .ok (.ldc 71, 2) := by decide +kernel
theorem dX6_behind_24 : decode cX6_behind 24 = .ok (.invokevirtual 72, 3) := by decide +kernel
theorem dX6_behind_27 : decode cX6_behind 27 = .ok (.ireturn, 1) := by decide +kernel
theorem dX6_behind_28 : decode cX6_behind 28 = .ok (.aload_n 0, 1) := by decide +kernel
theorem dX6_behind_29 : decode cX6_behind 29 = .ok (.getfield 12, 3) := by decide +kernel
theorem dX6_behind_32 : decode cX6_behind 32 = .ok (.getfield 120, 3) := by decide +kernel
theorem dX6_behind_35 : decode cX6_behind 35 = .ok (.iload_n 1, 1) := by decide +kernel
theorem dX6_behind_36 : decode cX6_behind 36 = .ok (.aaload, 1) := by decide +kernel
theorem dX6_behind_37 : decode cX6_behind 37 = .ok (.aload_n 0, 1) := by decide +kernel
theorem dX6_behind_38 : decode cX6_behind 38 = .ok (.getfield 12, 3) := by decide +kernel
theorem dX6_behind_41 : decode cX6_behind 41 = .ok (.getfield 120, 3) := by decide +kernel
theorem dX6_behind_44 : decode cX6_behind 44 = .ok (.iload_n 2, 1) := by decide +kernel
theorem dX6_behind_45 : decode cX6_behind 45 = .ok (.aaload, 1) := by decide +kernel
theorem dX6_behind_46 : decode cX6_behind 46 = .ok (.invokestatic 243, 3) := by decide +kernel
theorem dX6_behind_49 : decode cX6_behind 49 = .ok (.ifCond .eq 10, 3) := by decide +kernel
theorem dX6_behind_52 : decode cX6_behind 52 = .ok (.aload_n 0, 1) := by decide +kernel
theorem dX6_behind_53 : decode cX6_behind 53 = .ok (.invokevirtual 237, 3) := by decide +kernel
theorem dX6_behind_56 : decode cX6_behind 56 = .ok (.ifCond .eq 10, 3) := by decide +kernel
theorem dX6_behind_59 : decode cX6_behind 59 = .ok (.aload_n 0, 1) := by decide +kernel
theorem dX6_behind_60 : decode cX6_behind 60 = .ok (.ldc 169, 2) := by decide +kernel
theorem dX6_behind_62 : decode cX6_behind 62 = .ok (.invokevirtual 72, 3) := by decide +kernel
theorem dX6_behind_65 : decode cX6_behind 65 = .ok (.ireturn, 1) := by decide +kernel
theorem dX6_behind_66 : decode cX6_behind 66 = .ok (.aload_n 0, 1) := by decide +kernel
theorem dX6_behind_67 : decode cX6_behind 67 = .ok (.getfield 23, 3) := by decide +kernel
theorem dX6_behind_70 : decode cX6_behind 70 = .ok (.aload_n 0, 1) := by decide +kernel
theorem dX6_behind_71 : decode cX6_behind 71 = .ok (.getfield 12, 3) := by decide +kernel
theorem dX6_behind_74 : decode cX6_behind 74 = .ok (.invokevirtual 194, 3) := by decide +kernel
theorem dX6_behind_77 : decode cX6_behind 77 = .ok (.aload_n 0, 1) := by decide +kernel
theorem dX6_behind_78 : decode cX6_behind 78 = .ok (.getfield 23, 3) := by decide +kernel
theorem dX6_behind_81 : decode cX6_behind 81 = .ok (.iconst 1, 1) := by decide +kernel
theorem dX6_behind_82 : decode cX6_behind 82 = .ok (.iload_n 1, 1) := by decide +kernel
theorem dX6_behind_83 : decode cX6_behind 83 = .ok (.ishl, 1) := by decide +kernel
theorem dX6_behind_84 : decode cX6_behind 84 = .ok (.iconst 1, 1) := by decide +kernel
theorem dX6_behind_85 : decode cX6_behind 85 = .ok (.iload_n 2, 1) := by decide +kernel
theorem dX6_behind_86 : decode cX6_behind 86 = .ok (.ishl, 1) := by decide +kernel
theorem dX6_behind_87 : decode cX6_behind 87 = .ok (.ior, 1) := by decide +kernel
theorem dX6_behind_88 : decode cX6_behind 88 = .ok (.invokevirtual 247, 3) := by decide +kernel
theorem dX6_behind_91 : decode cX6_behind 91 = .ok (.aload_n 0, 1) := by decide +kernel
theorem dX6_behind_92 : decode cX6_behind 92 = .ok (.getfield 23, 3) := by decide +kernel
theorem dX6_behind_95 : decode cX6_behind 95 = .ok (.getfield 120, 3) := by decide +kernel
theorem dX6_behind_98 : decode cX6_behind 98 = .ok (.iload_n 1, 1) := by decide +kernel
theorem dX6_behind_99 : decode cX6_behind 99 = .ok (.aaload, 1) := by decide +kernel
theorem dX6_behind_100 : decode cX6_behind 100 = .ok (.bipush 10, 2) := by decide +kernel
theorem dX6_behind_102 : decode cX6_behind 102 = .ok (.invokevirtual 170, 3) := by decide +kernel
theorem dX6_behind_105 : decode cX6_behind 105 = .ok (.iconst 1, 1) := by decide +kernel
theorem dX6_behind_106 : decode cX6_behind 106 = .ok (.istore_n 3, 1) := by decide +kernel
theorem dX6_behind_107 : decode cX6_behind 107 = .ok (.iload_n 3, 1) := by decide +kernel
theorem dX6_behind_108 : decode cX6_behind 108 = .ok (.bipush 59, 2) := by decide +kernel
theorem dX6_behind_110 : decode cX6_behind 110 = .ok (.if_icmp .gt 80, 3) := by decide +kernel
theorem dX6_behind_113 : decode cX6_behind 113 = .ok (.aload_n 0, 1) := by decide +kernel
theorem dX6_behind_114 : decode cX6_behind 114 = .ok (.getfield 23, 3) := by decide +kernel
theorem dX6_behind_117 : decode cX6_behind 117 = .ok (.invokevirtual 240, 3) := by decide +kernel
theorem dX6_behind_120 : decode cX6_behind 120 = .ok (.ifCond .le 10, 3) := by decide +kernel
theorem dX6_behind_123 : decode cX6_behind 123 = .ok (.aload_n 0, 1) := by decide +kernel
theorem dX6_behind_124 : decode cX6_behind 124 = .ok (.ldc 207, 2) := by decide +kernel
theorem dX6_behind_126 : decode cX6_behind 126 = .ok (.invokevirtual 72, 3) := by decide +kernel
theorem dX6_behind_129 : decode cX6_behind 129 = .ok (.ireturn, 1) := by decide +kernel
theorem dX6_behind_130 : decode cX6_behind 130 = .ok (.aload_n 0, 1) := by decide +kernel
theorem dX6_behind_131 : decode cX6_behind 131 = .ok (.getfield 26, 3) := by decide +kernel
theorem dX6_behind_134 : decode cX6_behind 134 = .ok (.aload_n 0, 1) := by decide +kernel
theorem dX6_behind_135 : decode cX6_behind 135 = .ok (.getfield 23, 3) := by decide +kernel
theorem dX6_behind_138 : decode cX6_behind 138 = .ok (.invokevirtual 194, 3) := by decide +kernel
theorem dX6_behind_141 : decode cX6_behind 141 = .ok (.aload_n 0, 1) := by decide +kernel
theorem dX6_behind_142 : decode cX6_behind 142 = .ok (.getfield 26, 3) := by decide +kernel
theorem dX6_behind_145 : decode cX6_behind 145 = .ok (.getfield 120, 3) := by decide +kernel
theorem dX6_behind_148 : decode cX6_behind 148 = .ok (.iload_n 2, 1) := by decide +kernel
theorem dX6_behind_149 : decode cX6_behind 149 = .ok (.aaload, 1) := by decide +kernel
theorem dX6_behind_150 : decode cX6_behind 150 = .ok (.bipush 10, 2) := by decide +kernel
theorem dX6_behind_152 : decode cX6_behind 152 = .ok (.invokevirtual 170, 3) := by decide +kernel
theorem dX6_behind_155 : decode cX6_behind 155 = .ok (.aload_n 0, 1) := by decide +kernel
theorem dX6_behind_156 : decode cX6_behind 156 = .ok (.getfield 26, 3) := by decide +kernel
theorem dX6_behind_159 : decode cX6_behind 159 = .ok (.sipush 200, 3) := by decide +kernel
theorem dX6_behind_162 : decode cX6_behind 162 = .ok (.invokevirtual 204, 3) := by decide +kernel
theorem dX6_behind_165 : decode cX6_behind 165 = .ok (.ifCond .ne 19, 3) := by decide +kernel
theorem dX6_behind_168 : decode cX6_behind 168 = .ok (.aload_n 0, 1) := by decide +kernel
theorem dX6_behind_169 : decode cX6_behind 169 = .ok (.getfield 26, 3) := by decide +kernel
theorem dX6_behind_172 : decode cX6_behind 172 = .ok (.invokevirtual 198, 3) := by decide +kernel
theorem dX6_behind_175 : decode cX6_behind 175 = .ok (.invokestatic 183, 3) := by decide +kernel
theorem dX6_behind_178 : decode cX6_behind 178 = .ok (.iconst 2, 1) := by decide +kernel
theorem dX6_behind_179 : decode cX6_behind 179 = .ok (.if_icmp .ne 5, 3) := by decide +kernel
theorem dX6_behind_182 : decode cX6_behind 182 = .ok (.iload_n 3, 1) := by decide +kernel
theorem dX6_behind_183 : decode cX6_behind 183 = .ok (.ireturn, 1) := by decide +kernel
theorem dX6_behind_184 : decode cX6_behind 184 = .ok (.iinc 3 1, 3) := by decide +kernel
theorem dX6_behind_187 : decode cX6_behind 187 = .ok (.goto (-80), 3) := by decide +kernel
theorem dX6_behind_190 : decode cX6_behind 190 = .ok (.aload_n 0, 1) := by decide +kernel
theorem dX6_behind_191 : decode cX6_behind 191 = .ok (.ldc 207, 2) := by decide +kernel
theorem dX6_behind_193 : decode cX6_behind 193 = .ok (.invokevirtual 72, 3) := by decide +kernel
theorem dX6_behind_196 : decode cX6_behind 196 = .ok (.ireturn, 1) := by decide +kernel
theorem dX6_come_0 : decode cX6_come 0 = .ok (.aload_n 0, 1) := by decide +kernel
theorem dX6_come_1 : decode cX6_come 1 = .ok (.invokevirtual 250, 3) := by decide +kernel
theorem dX6_come_4 : decode cX6_come 4 = .ok (.ifCond .eq 10, 3) := by decide +kernel
theorem dX6_come_7 : decode cX6_come 7 = .ok (.aload_n 0, 1) := by decide +kernel
theorem dX6_come_8 : decode cX6_come 8 = .ok (.ldc 169, 2) := by decide +kernel
theorem dX6_come_10 : decode cX6_come 10 = .ok (.invokevirtual 72, 3) := by decide +kernel
theorem dX6_come_13 : decode cX6_come 13 = .ok (.ireturn, 1) := by decide +kernel
theorem dX6_come_14 : decode cX6_come 14 = .ok (.aload_n 0, 1) := by decide +kernel
theorem dX6_come_15 : decode cX6_come 15 = .ok (.getfield 12, 3) := by decide +kernel
theorem dX6_come_18 : decode cX6_come 18 = .ok (.iconst 0, 1) := by decide +kernel
theorem dX6_come_19 : decode cX6_come 19 = .ok (.invokevirtual 180, 3) := by decide +kernel
theorem dX6_come_22 : decode cX6_come 22 = .ok (.aload_n 0, 1) := by decide +kernel
theorem dX6_come_23 : decode cX6_come 23 = .ok (.getfield 12, 3) := by decide +kernel
theorem dX6_come_26 : decode cX6_come 26 = .ok (.iconst 0, 1) := by decide +kernel
theorem dX6_come_27 : decode cX6_come 27 = .ok (.invokevirtual 191, 3) := by decide +kernel
theorem dX6_come_30 : decode cX6_come 30 = .ok (.iand, 1) := by decide +kernel
theorem dX6_come_31 : decode cX6_come 31 = .ok (.istore_n 1, 1) := by decide +kernel
theorem dX6_come_32 : decode cX6_come 32 = .ok (.iconst 0, 1) := by decide +kernel
theorem dX6_come_33 : decode cX6_come 33 = .ok (.istore_n 2, 1) := by decide +kernel
theorem dX6_come_34 : decode cX6_come 34 = .ok (.iconst 0, 1) := by decide +kernel
theorem dX6_come_35 : decode cX6_come 35 = .ok (.istore_n 3, 1) := by decide +kernel
theorem dX6_come_36 : decode cX6_come 36 = .ok (.iload_n 3, 1) := by decide +kernel
theorem dX6_come_37 : decode cX6_come 37 = .ok (.aload_n 0, 1) := by decide +kernel
theorem dX6_come_38 : decode cX6_come 38 = .ok (.getfield 12, 3) := by decide +kernel
theorem dX6_come_41 : decode cX6_come 41 = .ok (.getfield 114, 3) := by decide +kernel
theorem dX6_come_44 : decode cX6_come 44 = .ok (.if_icmp .ge 57, 3) := by decide +kernel
theorem dX6_come_47 : decode cX6_come 47 = .ok (.iload_n 1, 1) := by decide +kernel
theorem dX6_come_48 : decode cX6_come 48 = .ok (.iload_n 3, 1) := by decide +kernel
theorem dX6_come_49 : decode cX6_come 49 = .ok (.invokestatic 253, 3) := by decide +kernel
theorem dX6_come_52 : decode cX6_come 52 = .ok (.ifCond .eq 43, 3) := by decide +kernel
theorem dX6_come_55 : decode cX6_come 55 = .ok (.aload_n 0, 1) := by decide +kernel
theorem dX6_come_56 : decode cX6_come 56 = .ok (.getfield 32, 3) := by decide +kernel
theorem dX6_come_59 : decode cX6_come 59 = .ok (.aload_n 0, 1) := by decide +kernel
theorem dX6_come_60 : decode cX6_come 60 = .ok (.getfield 12, 3) := by decide +kernel
theorem dX6_come_63 : decode cX6_come 63 = .ok (.aload_n 0, 1) := by decide +kernel
theorem dX6_come_64 : decode cX6_come 64 = .ok (.getfield 12, 3) := by decide +kernel
theorem dX6_come_67 : decode cX6_come 67 = .ok (.getfield 120, 3) := by decide +kernel
theorem dX6_come_70 : decode cX6_come 70 = .ok (.iload_n 3, 1) := by decide +kernel
theorem dX6_come_71 : decode cX6_come 71 = .ok (.aaload, 1) := by decide +kernel
theorem dX6_come_72 : decode cX6_come 72 = .ok (.invokevirtual 211, 3) := by decide +kernel
theorem dX6_come_75 : decode cX6_come 75 = .ok (.iload_n 2, 1) := by decide +kernel
theorem dX6_come_76 : decode cX6_come 76 = .ok (.aload_n 0, 1) := by decide +kernel
theorem dX6_come_77 : decode cX6_come 77 = .ok (.getfield 32, 3) := by decide +kernel
theorem dX6_come_80 : decode cX6_come 80 = .ok (.bipush 30, 2) := by decide +kernel
theorem dX6_come_82 : decode cX6_come 82 = .ok (.invokevirtual 234, 3) := by decide +kernel
theorem dX6_come_85 : decode cX6_come 85 = .ok (.ifCond .eq 7, 3) := by decide +kernel
theorem dX6_come_88 : decode cX6_come 88 = .ok (.iconst 1, 1) := by decide +kernel
theorem dX6_come_89 : decode cX6_come 89 = .ok (.goto 4, 3) := by decide +kernel
theorem dX6_come_92 : decode cX6_come 92 = .ok (.iconst 0, 1) := by decide +kernel
theorem dX6_come_93 : decode cX6_come 93 = .ok (.iadd, 1) := by decide +kernel
theorem dX6_come_94 : decode cX6_come 94 = .ok (.istore_n 2, 1) := by decide +kernel
theorem dX6_come_95 : decode cX6_come 95 = .ok (.iinc 3 1, 3) := by decide +kernel
theorem dX6_come_98 : decode cX6_come 98 = .ok (.goto (-62), 3) := by decide +kernel
theorem dX6_come_101 : decode cX6_come 101 = .ok (.iload_n 2, 1) := by decide +kernel
theorem dX6_come_102 : decode cX6_come 102 = .ok (.ireturn, 1) := by decide +kernel
theorem dX6_pack_0 : decode cX6_pack 0 = .ok (.aload_n 0, 1) := by decide +kernel
theorem dX6_pack_1 : decode cX6_pack 1 = .ok (.iload_n 1, 1) := by decide +kernel
theorem dX6_pack_2 : decode cX6_pack 2 = .ok (.invokevirtual 257, 3) := by decide +kernel
theorem dX6_pack_5 : decode cX6_pack 5 = .ok (.ifCond .ne 10, 3) := by decide +kernel
theorem dX6_pack_8 : decode cX6_pack 8 = .ok (.aload_n 0, 1) := by decide +kernel
theorem dX6_pack_9 : decode cX6_pack 9 = .ok (.ldc 71, 2) := by decide +kernel
theorem dX6_pack_11 : decode cX6_pack 11 = .ok (.invokevirtual 72, 3) := by decide +kernel
theorem dX6_pack_14 : decode cX6_pack 14 = .ok (.ireturn, 1) := by decide +kernel
theorem dX6_pack_15 : decode cX6_pack 15 = .ok (.aload_n 0, 1) := by decide +kernel
theorem dX6_pack_16 : decode cX6_pack 16 = .ok (.getfield 39, 3) := by decide +kernel
theorem dX6_pack_19 : decode cX6_pack 19 = .ok (.aload_n 0, 1) := by decide +kernel
theorem dX6_pack_20 : decode cX6_pack 20 = .ok (.getfield 12, 3) := by decide +kernel
theorem dX6_pack_23 : decode cX6_pack 23 = .ok (.iload_n 1, 1) := by decide +kernel
theorem dX6_pack_24 : decode cX6_pack 24 = .ok (.invokevirtual 260, 3) := by decide +kernel
theorem dX6_pack_27 : decode cX6_pack 27 = .ok (.ireturn, 1) := by decide +kernel
theorem dX6_lean_0 : decode cX6_lean 0 = .ok (.aload_n 0, 1) := by decide +kernel
theorem dX6_lean_1 : decode cX6_lean 1 = .ok (.iload_n 1, 1) := by decide +kernel
theorem dX6_lean_2 : decode cX6_lean 2 = .ok (.invokevirtual 257, 3) := by decide +kernel
theorem dX6_lean_5 : decode cX6_lean 5 = .ok (.ifCond .ne 10, 3) := by decide +kernel
theorem dX6_lean_8 : decode cX6_lean 8 = .ok (.aload_n 0, 1) := by decide +kernel
theorem dX6_lean_9 : decode cX6_lean 9 = .ok (.ldc 71, 2) := by decide +kernel
theorem dX6_lean_11 : decode cX6_lean 11 = .ok (.invokevirtual 72, 3) := by decide +kernel
theorem dX6_lean_14 : decode cX6_lean 14 = .ok (.ireturn, 1) := by decide +kernel
theorem dX6_lean_15 : decode cX6_lean 15 = .ok (.aload_n 0, 1) := by decide +kernel
theorem dX6_lean_16 : decode cX6_lean 16 = .ok (.getfield 39, 3) := by decide +kernel
theorem dX6_lean_19 : decode cX6_lean 19 = .ok (.iload_n 1, 1) := by decide +kernel
theorem dX6_lean_20 : decode cX6_lean 20 = .ok (.aload_n 0, 1) := by decide +kernel
theorem dX6_lean_21 : decode cX6_lean 21 = .ok (.getfield 39, 3) := by decide +kernel
theorem dX6_lean_24 : decode cX6_lean 24 = .ok (.aload_n 0, 1) := by decide +kernel
theorem dX6_lean_25 : decode cX6_lean 25 = .ok (.getfield 12, 3) := by decide +kernel
theorem dX6_lean_28 : decode cX6_lean 28 = .ok (.iload_n 1, 1) := by decide +kernel
theorem dX6_lean_29 : decode cX6_lean 29 = .ok (.invokevirtual 260, 3) := by decide +kernel
theorem dX6_lean_32 : decode cX6_lean 32 = .ok (.invokevirtual 264, 3) := by decide +kernel
theorem dX6_lean_35 : decode cX6_lean 35 = .ok (.ireturn, 1) := by decide +kernel
theorem dX6_drums_0 : decode cX6_drums 0 = .ok (.aload_n 0, 1) := by decide +kernel
theorem dX6_drums_1 : decode cX6_drums 1 = .ok (.iload_n 1, 1) := by decide +kernel
theorem dX6_drums_2 : decode cX6_drums 2 = .ok (.invokevirtual 257, 3) := by decide +kernel
theorem dX6_drums_5 : decode cX6_drums 5 = .ok (.ifCond .eq 14, 3) := by decide +kernel
theorem dX6_drums_8 : decode cX6_drums 8 = .ok (.iload_n 2, 1) := by decide +kernel
theorem dX6_drums_9 : decode cX6_drums 9 = .ok (.iconst 1, 1) := by decide +kernel
theorem dX6_drums_10 : decode cX6_drums 10 = .ok (.sipush 999, 3) := by decide +kernel
theorem dX6_drums_13 : decode cX6_drums 13 = .ok (.invokestatic 79, 3) := by decide +kernel
theorem dX6_drums_16 : decode cX6_drums 16 = .ok (.ifCond .ne 10, 3) := by decide +kernel
theorem dX6_drums_19 : decode cX6_drums 19 = .ok (.aload_n 0, 1) := by decide +kernel
theorem dX6_drums_20 : decode cX6_drums 20 = .ok (.ldc 71, 2) := by decide +kernel
theorem dX6_drums_22 : decode cX6_drums 22 = .ok (.invokevirtual 72, 3) := by decide +kernel
theorem dX6_drums_25 : decode cX6_drums 25 = .ok (.ireturn, 1) := by decide +kernel
theorem dX6_drums_26 : decode cX6_drums 26 = .ok (.aload_n 0, 1) := by decide +kernel
theorem dX6_drums_27 : decode cX6_drums 27 = .ok (.getfield 12, 3) := by decide +kernel
theorem dX6_drums_30 : decode cX6_drums 30 = .ok (.iload_n 1, 1) := by decide +kernel
theorem dX6_drums_31 : decode cX6_drums 31 = .ok (.invokevirtual 268, 3) := by decide +kernel
theorem dX6_drums_34 : decode cX6_drums 34 = .ok (.iload_n 2, 1) := by decide +kernel
theorem dX6_drums_35 : decode cX6_drums 35 = .ok (.if_icmp .le 10, 3) := by decide +kernel
theorem dX6_drums_38 : decode cX6_drums 38 = .ok (.aload_n 0, 1) := by decide +kernel
theorem dX6_drums_39 : decode cX6_drums 39 = .ok (.ldc 207, 2) := by decide +kernel
theorem dX6_drums_41 : decode cX6_drums 41 = .ok (.invokevirtual 72, 3) := by decide +kernel
theorem dX6_drums_44 : decode cX6_drums 44 = .ok (.ireturn, 1) := by decide +kernel
theorem dX6_drums_45 : decode cX6_drums 45 = .ok (.aload_n 0, 1) := by decide +kernel
theorem dX6_drums_46 : decode cX6_drums 46 = .ok (.getfield 39, 3) := by decide +kernel
theorem dX6_drums_49 : decode cX6_drums 49 = .ok (.aload_n 0, 1) := by decide +kernel
theorem dX6_drums_50 : decode cX6_drums 50 = .ok (.getfield 12, 3) := by decide +kernel
theorem dX6_drums_53 : decode cX6_drums 53 = .ok (.iload_n 1, 1) := by decide +kernel
theorem dX6_drums_54 : decode cX6_drums 54 = .ok (.iload_n 2, 1) := by decide +kernel
theorem dX6_drums_55 : decode cX6_drums 55 = .ok (.invokevirtual 271, 3) := by decide +kernel
theorem dX6_drums_58 : decode cX6_drums 58 = .ok (.ireturn, 1) := by decide +kernel
theorem dX6_waits_0 : decode cX6_waits 0 = .ok (.aload_n 0, 1) := by decide +kernel
theorem dX6_waits_1 : decode cX6_waits 1 = .ok (.aload_n 0, 1) := by decide +kernel
theorem dX6_waits_2 : decode cX6_waits 2 = .ok (.invokevirtual 275, 3) := by decide +kernel
theorem dX6_waits_5 : decode cX6_waits 5 = .ok (.invokevirtual 278, 3) := by decide +kernel
theorem dX6_waits_8 : decode cX6_waits 8 = .ok (.ireturn, 1) := by decide +kernel
theorem dX6_least_0 : decode cX6_least 0 = .ok (.aload_n 0, 1) := by decide +kernel
theorem dX6_least_1 : decode cX6_least 1 = .ok (.aload_n 0, 1) := by decide +kernel
theorem dX6_least_2 : decode cX6_least 2 = .ok (.invokevirtual 281, 3) := by decide +kernel
theorem dX6_least_5 : decode cX6_least 5 = .ok (.invokevirtual 278, 3) := by decide +kernel
theorem dX6_least_8 : decode cX6_least 8 = .ok (.ireturn, 1) := by decide +kernel
theorem dX6_order_0 : decode cX6_order 0 = .ok (.iload_n 1, 1) := by decide +kernel
theorem dX6_order_1 : decode cX6_order 1 = .ok (.iconst 0, 1) := by decide +kernel
theorem dX6_order_2 : decode cX6_order 2 = .ok (.bipush 9, 2) := by decide +kernel
theorem dX6_order_4 : decode cX6_order 4 = .ok (.invokestatic 79, 3) := by decide +kernel
theorem dX6_order_7 : decode cX6_order 7 = .ok (.ifCond .ne 10, 3) := by decide +kernel
theorem dX6_order_10 : decode cX6_order 10 = .ok (.aload_n 0, 1) := by decide +kernel
theorem dX6_order_11 : decode cX6_order 11 = .ok (.ldc 71, 2) := by decide +kernel
theorem dX6_order_13 : decode cX6_order 13 = .ok (.invokevirtual 72, 3) := by decide +kernel
theorem dX6_order_16 : decode cX6_order 16 = .ok (.ireturn, 1) := by decide +kernel
theorem dX6_order_17 : decode cX6_order 17 = .ok (.iload_n 1, 1) := by decide +kernel
theorem dX6_order_18 : decode cX6_order 18 = .ok (.aload_n 0, 1) := by decide +kernel
theorem dX6_order_19 : decode cX6_order 19 = .ok (.invokevirtual 281, 3) := by decide +kernel
theorem dX6_order_22 : decode cX6_order 22 = .ok (.if_icmp .ge 12, 3) := by decide +kernel
theorem dX6_order_25 : decode cX6_order 25 = .ok (.aload_n 0, 1) := by decide +kernel
theorem dX6_order_26 : decode cX6_order 26 = .ok (.getfield 43, 3) := by decide +kernel
theorem dX6_order_29 : decode cX6_order 29 = .ok (.iload_n 1, 1) := by decide +kernel
theorem dX6_order_30 : decode cX6_order 30 = .ok (.iaload, 1) := by decide +kernel
theorem dX6_order_31 : decode cX6_order 31 = .ok (.goto 9, 3) := by decide +kernel
theorem dX6_order_34 : decode cX6_order 34 = .ok (.aload_n 0, 1) := by decide +kernel
theorem dX6_order_35 : decode cX6_order 35 = .ok (.ldc 207, 2) := by decide +kernel
theorem dX6_order_37 : decode cX6_order 37 = .ok (.invokevirtual 72, 3) := by decide +kernel
theorem dX6_order_40 : decode cX6_order 40 = .ok (.ireturn, 1) := by decide +kernel
theorem dX6_wheel_0 : decode cX6_wheel 0 = .ok (.iload_n 1, 1) := by decide +kernel
theorem dX6_wheel_1 : decode cX6_wheel 1 = .ok (.iconst 1, 1) := by decide +kernel
theorem dX6_wheel_2 : decode cX6_wheel 2 = .ok (.sipush 999, 3) := by decide +kernel
theorem dX6_wheel_5 : decode cX6_wheel 5 = .ok (.invokestatic 79, 3) := by decide +kernel
theorem dX6_wheel_8 : decode cX6_wheel 8 = .ok (.ifCond .ne 10, 3) := by decide +kernel
theorem dX6_wheel_11 : decode cX6_wheel 11 = .ok (.aload_n 0, 1) := by decide +kernel
theorem dX6_wheel_12 : decode cX6_wheel 12 = .ok (.ldc 71, 2) := by decide +kernel
theorem dX6_wheel_14 : decode cX6_wheel 14 = .ok (.invokevirtual 72, 3) := by decide +kernel
theorem dX6_wheel_17 : decode cX6_wheel 17 = .ok (.ireturn, 1) := by decide +kernel
theorem dX6_wheel_18 : decode cX6_wheel 18 = .ok (.aload_n 0, 1) := by decide +kernel
theorem dX6_wheel_19 : decode cX6_wheel 19 = .ok (.invokevirtual 281, 3) := by decide +kernel
theorem dX6_wheel_22 : decode cX6_wheel 22 = .ok (.istore_n 2, 1) := by decide +kernel
theorem dX6_wheel_23 : decode cX6_wheel 23 = .ok (.iload_n 1, 1) := by decide +kernel
theorem dX6_wheel_24 : decode cX6_wheel 24 = .ok (.istore_n 3, 1) := by decide +kernel
theorem dX6_wheel_25 : decode cX6_wheel 25 = .ok (.iconst 0, 1) := by decide +kernel
theorem dX6_wheel_26 : decode cX6_wheel 26 = .ok (.istore 4, 2) := by decide +kernel
theorem dX6_wheel_28 : decode cX6_wheel 28 = .ok (.iload 4, 2) := by decide +kernel
theorem dX6_wheel_30 : decode cX6_wheel 30 = .ok (.iload_n 2, 1) := by decide +kernel
theorem dX6_wheel_31 : decode cX6_wheel 31 = .ok (.if_icmp .ge 71, 3) := by decide +kernel
theorem dX6_wheel_34 : decode cX6_wheel 34 = .ok (.aload_n 0, 1) := by decide +kernel
theorem dX6_wheel_35 : decode cX6_wheel 35 = .ok (.getfield 12, 3) := by decide +kernel
theorem dX6_wheel_38 : decode cX6_wheel 38 = .ok (.getfield 120, 3) := by decide +kernel
theorem dX6_wheel_41 : decode cX6_wheel 41 = .ok (.aload_n 0, 1) := by decide +kernel
theorem dX6_wheel_42 : decode cX6_wheel 42 = .ok (.getfield 43, 3) := by decide +kernel
theorem dX6_wheel_45 : decode cX6_wheel 45 = .ok (.iload 4, 2) := by decide +kernel
theorem dX6_wheel_47 : decode cX6_wheel 47 = .ok (.iaload, 1) := by decide +kernel
theorem dX6_wheel_48 : decode cX6_wheel 48 = .ok (.aaload, 1) := by decide +kernel
theorem dX6_wheel_49 : decode cX6_wheel 49 = .ok (.invokevirtual 284, 3) := by decide +kernel
theorem dX6_wheel_52 : decode cX6_wheel 52 = .ok (.iload_n 3, 1) := by decide +kernel
theorem dX6_wheel_53 : decode cX6_wheel 53 = .ok (.if_icmp .gt 49, 3) := by decide +kernel
theorem dX6_wheel_56 : decode cX6_wheel 56 = .ok (.iload_n 3, 1) := by decide +kernel
theorem dX6_wheel_57 : decode cX6_wheel 57 = .ok (.aload_n 0, 1) := by decide +kernel
theorem dX6_wheel_58 : decode cX6_wheel 58 = .ok (.getfield 12, 3) := by decide +kernel
theorem dX6_wheel_61 : decode cX6_wheel 61 = .ok (.getfield 120, 3) := by decide +kernel
theorem dX6_wheel_64 : decode cX6_wheel 64 = .ok (.aload_n 0, 1) := by decide +kernel
theorem dX6_wheel_65 : decode cX6_wheel 65 = .ok (.getfield 43, 3) := by decide +kernel
theorem dX6_wheel_68 : decode cX6_wheel 68 = .ok (.iload 4, 2) := by decide +kernel
theorem dX6_wheel_70 : decode cX6_wheel 70 = .ok (.iaload, 1) := by decide +kernel
theorem dX6_wheel_71 : decode cX6_wheel 71 = .ok (.aaload, 1) := by decide +kernel
theorem dX6_wheel_72 : decode cX6_wheel 72 = .ok (.invokevirtual 284, 3) := by decide +kernel
theorem dX6_wheel_75 : decode cX6_wheel 75 = .ok (.isub, 1) := by decide +kernel
theorem dX6_wheel_76 : decode cX6_wheel 76 = .ok (.istore_n 3, 1) := by decide +kernel
theorem dX6_wheel_77 : decode cX6_wheel 77 = .ok (.aload_n 0, 1) := by decide +kernel
theorem dX6_wheel_78 : decode cX6_wheel 78 = .ok (.getfield 12, 3) := by decide +kernel
theorem dX6_wheel_81 : decode cX6_wheel 81 = .ok (.getfield 120, 3) := by decide +kernel
theorem dX6_wheel_84 : decode cX6_wheel 84 = .ok (.aload_n 0, 1) := by decide +kernel
theorem dX6_wheel_85 : decode cX6_wheel 85 = .ok (.getfield 43, 3) := by decide +kernel
theorem dX6_wheel_88 : decode cX6_wheel 88 = .ok (.iload 4, 2) := by decide +kernel
theorem dX6_wheel_90 : decode cX6_wheel 90 = .ok (.iaload, 1) := by decide +kernel
theorem dX6_wheel_91 : decode cX6_wheel 91 = .ok (.aaload, 1) := by decide +kernel
theorem dX6_wheel_92 : decode cX6_wheel 92 = .ok (.iconst 3, 1) := by decide +kernel
theorem dX6_wheel_93 : decode cX6_wheel 93 = .ok (.putfield 144, 3) := by decide +kernel
theorem dX6_wheel_96 : decode cX6_wheel 96 = .ok (.iinc 4 1, 3) := by decide +kernel
theorem dX6_wheel_99 : decode cX6_wheel 99 = .ok (.goto (-71), 3) := by decide +kernel
theorem dX6_wheel_102 : decode cX6_wheel 102 = .ok (.iload 4, 2) := by decide +kernel
theorem dX6_wheel_104 : decode cX6_wheel 104 = .ok (.ireturn, 1) := by decide +kernel
theorem dX6_odds_0 : decode cX6_odds 0 = .ok (.aload_n 0, 1) := by decide +kernel
theorem dX6_odds_1 : decode cX6_odds 1 = .ok (.iload_n 1, 1) := by decide +kernel
theorem dX6_odds_2 : decode cX6_odds 2 = .ok (.invokevirtual 117, 3) := by decide +kernel
theorem dX6_odds_5 : decode cX6_odds 5 = .ok (.ifCond .eq 13, 3) := by decide +kernel
theorem dX6_odds_8 : decode cX6_odds 8 = .ok (.iload_n 2, 1) := by decide +kernel
theorem dX6_odds_9 : decode cX6_odds 9 = .ok (.iconst 1, 1) := by decide +kernel
theorem dX6_odds_10 : decode cX6_odds 10 = .ok (.bipush 20, 2) := by decide +kernel
theorem dX6_odds_12 : decode cX6_odds 12 = .ok (.invokestatic 79, 3) := by decide +kernel
theorem dX6_odds_15 : decode cX6_odds 15 = .ok (.ifCond .ne 10, 3) := by decide +kernel
theorem dX6_odds_18 : decode cX6_odds 18 = .ok (.aload_n 0, 1) := by decide +kernel
theorem dX6_odds_19 : decode cX6_odds 19 = .ok (.ldc 71, 2) := by decide +kernel
theorem dX6_odds_21 : decode cX6_odds 21 = .ok (.invokevirtual 72, 3) := by decide +kernel
theorem dX6_odds_24 : decode cX6_odds 24 = .ok (.ireturn, 1) := by decide +kernel
theorem dX6_odds_25 : decode cX6_odds 25 = .ok (.aload_n 0, 1) := by decide +kernel
theorem dX6_odds_26 : decode cX6_odds 26 = .ok (.getfield 12, 3) := by decide +kernel
theorem dX6_odds_29 : decode cX6_odds 29 = .ok (.getfield 120, 3) := by decide +kernel
theorem dX6_odds_32 : decode cX6_odds 32 = .ok (.iload_n 1, 1) := by decide +kernel
theorem dX6_odds_33 : decode cX6_odds 33 = .ok (.aaload, 1) := by decide +kernel
theorem dX6_odds_34 : decode cX6_odds 34 = .ok (.invokevirtual 166, 3) := by decide +kernel
theorem dX6_odds_37 : decode cX6_odds 37 = .ok (.ifCond .eq 10, 3) := by decide +kernel
theorem dX6_odds_40 : decode cX6_odds 40 = .ok (.aload_n 0, 1) := by decide +kernel
theorem dX6_odds_41 : decode cX6_odds 41 = .ok (.invokevirtual 250, 3) := by decide +kernel
theorem dX6_odds_44 : decode cX6_odds 44 = .ok (.ifCond .eq 10, 3) := by decide +kernel
theorem dX6_odds_47 : decode cX6_odds 47 = .ok (.aload_n 0, 1) := by decide +kernel
theorem dX6_odds_48 : decode cX6_odds 48 = .ok (.ldc 169, 2) := by decide +kernel
theorem dX6_odds_50 : decode cX6_odds 50 = .ok (.invokevirtual 72, 3) := by decide +kernel
theorem dX6_odds_53 : decode cX6_odds 53 = .ok (.ireturn, 1) := by decide +kernel
theorem dX6_odds_54 : decode cX6_odds 54 = .ok (.iconst 0, 1) := by decide +kernel
theorem dX6_odds_55 : decode cX6_odds 55 = .ok (.istore_n 3, 1) := by decide +kernel
theorem dX6_odds_56 : decode cX6_odds 56 = .ok (.iconst 0, 1) := by decide +kernel
theorem dX6_odds_57 : decode cX6_odds 57 = .ok (.istore 4, 2) := by decide +kernel
theorem dX6_odds_59 : decode cX6_odds 59 = .ok (.iload 4, 2) := by decide +kernel
theorem dX6_odds_61 : decode cX6_odds 61 = .ok (.iload_n 2, 1) := by decide +kernel
theorem dX6_odds_62 : decode cX6_odds 62 = .ok (.if_icmp .ge 60, 3) := by decide +kernel
theorem dX6_odds_65 : decode cX6_odds 65 = .ok (.aload_n 0, 1) := by decide +kernel
theorem dX6_odds_66 : decode cX6_odds 66 = .ok (.getfield 32, 3) := by decide +kernel
theorem dX6_odds_69 : decode cX6_odds 69 = .ok (.aload_n 0, 1) := by decide +kernel
theorem dX6_odds_70 : decode cX6_odds 70 = .ok (.getfield 12, 3) := by decide +kernel
theorem dX6_odds_73 : decode cX6_odds 73 = .ok (.aload_n 0, 1) := by decide +kernel
theorem dX6_odds_74 : decode cX6_odds 74 = .ok (.getfield 12, 3) := by decide +kernel
theorem dX6_odds_77 : decode cX6_odds 77 = .ok (.getfield 120, 3) := by decide +kernel
theorem dX6_odds_80 : decode cX6_odds 80 = .ok (.iload_n 1, 1) := by decide +kernel
theorem dX6_odds_81 : decode cX6_odds 81 = .ok (.aaload, 1) := by decide +kernel
theorem dX6_odds_82 : decode cX6_odds 82 = .ok (.bipush 10, 2) := by decide +kernel
theorem dX6_odds_84 : decode cX6_odds 84 = .ok (.aload_n 0, 1) := by decide +kernel
theorem dX6_odds_85 : decode cX6_odds 85 = .ok (.getfield 12, 3) := by decide +kernel
theorem dX6_odds_88 : decode cX6_odds 88 = .ok (.invokevirtual 287, 3) := by decide +kernel
theorem dX6_odds_91 : decode cX6_odds 91 = .ok (.bipush 30, 2) := by decide +kernel
theorem dX6_odds_93 : decode cX6_odds 93 = .ok (.irem, 1) := by decide +kernel
theorem dX6_odds_94 : decode cX6_odds 94 = .ok (.iadd, 1) := by decide +kernel
theorem dX6_odds_95 : decode cX6_odds 95 = .ok (.invokevirtual 290, 3) := by decide +kernel
theorem dX6_odds_98 : decode cX6_odds 98 = .ok (.iload_n 3, 1) := by decide +kernel
theorem dX6_odds_99 : decode cX6_odds 99 = .ok (.aload_n 0, 1) := by decide +kernel
theorem dX6_odds_100 : decode cX6_odds 100 = .ok (.getfield 32, 3) := by decide +kernel
theorem dX6_odds_103 : decode cX6_odds 103 = .ok (.invokevirtual 218, 3) := by decide +kernel
theorem dX6_odds_106 : decode cX6_odds 106 = .ok (.ifCond .ge 7, 3) := by decide +kernel
theorem dX6_odds_109 : decode cX6_odds 109 = .ok (.iconst 1, 1) := by decide +kernel
theorem dX6_odds_110 : decode cX6_odds 110 = .ok (.goto 4, 3) := by decide +kernel
theorem dX6_odds_113 : decode cX6_odds 113 = .ok (.iconst 0, 1) := by decide +kernel
theorem dX6_odds_114 : decode cX6_odds 114 = .ok (.iadd, 1) := by decide +kernel
theorem dX6_odds_115 : decode cX6_odds 115 = .ok (.istore_n 3, 1) := by decide +kernel
theorem dX6_odds_116 : decode cX6_odds 116 = .ok (.iinc 4 1, 3) := by decide +kernel
theorem dX6_odds_119 : decode cX6_odds 119 = .ok (.goto (-60), 3) := by decide +kernel
theorem dX6_odds_122 : decode cX6_odds 122 = .ok (.iload_n 3, 1) := by decide +kernel
theorem dX6_odds_123 : decode cX6_odds 123 = .ok (.ireturn, 1) := by decide +kernel
theorem dX6_worst_0 : decode cX6_worst 0 = .ok (.iconst (-1), 1) := by decide +kernel
theorem dX6_worst_1 : decode cX6_worst 1 = .ok (.istore_n 1, 1) := by decide +kernel
theorem dX6_worst_2 : decode cX6_worst 2 = .ok (.iconst 0, 1) := by decide +kernel
theorem dX6_worst_3 : decode cX6_worst 3 = .ok (.istore_n 2, 1) := by decide +kernel
theorem dX6_worst_4 : decode cX6_worst 4 = .ok (.iconst 0, 1) := by decide +kernel
theorem dX6_worst_5 : decode cX6_worst 5 = .ok (.istore_n 3, 1) := by decide +kernel
theorem dX6_worst_6 : decode cX6_worst 6 = .ok (.iload_n 3, 1) := by decide +kernel
theorem dX6_worst_7 : decode cX6_worst 7 = .ok (.aload_n 0, 1) := by decide +kernel
theorem dX6_worst_8 : decode cX6_worst 8 = .ok (.getfield 12, 3) := by decide +kernel
theorem dX6_worst_11 : decode cX6_worst 11 = .ok (.getfield 114, 3) := by decide +kernel
theorem dX6_worst_14 : decode cX6_worst 14 = .ok (.if_icmp .ge 40, 3) := by decide +kernel
theorem dX6_worst_17 : decode cX6_worst 17 = .ok (.aload_n 0, 1) := by decide +kernel
theorem dX6_worst_18 : decode cX6_worst 18 = .ok (.getfield 12, 3) := by decide +kernel
theorem dX6_worst_21 : decode cX6_worst 21 = .ok (.getfield 120, 3) := by decide +kernel
theorem dX6_worst_24 : decode cX6_worst 24 = .ok (.iload_n 3, 1) := by decide +kernel
theorem dX6_worst_25 : decode cX6_worst 25 = .ok (.aaload, 1) := by decide +kernel
theorem dX6_worst_26 : decode cX6_worst 26 = .ok (.getfield 147, 3) := by decide +kernel
theorem dX6_worst_29 : decode cX6_worst 29 = .ok (.iload_n 2, 1) := by decide +kernel
theorem dX6_worst_30 : decode cX6_worst 30 = .ok (.if_icmp .le 18, 3) := by decide +kernel
theorem dX6_worst_33 : decode cX6_worst 33 = .ok (.aload_n 0, 1) := by decide +kernel
theorem dX6_worst_34 : decode cX6_worst 34 = .ok (.getfield 12, 3) := by decide +kernel
theorem dX6_worst_37 : decode cX6_worst 37 = .ok (.getfield 120, 3) := by decide +kernel
theorem dX6_worst_40 : decode cX6_worst 40 = .ok (.iload_n 3, 1) := by decide +kernel
theorem dX6_worst_41 : decode cX6_worst 41 = .ok (.aaload, 1) := by decide +kernel
theorem dX6_worst_42 : decode cX6_worst 42 = .ok (.getfield 147, 3) := by decide +kernel
theorem dX6_worst_45 : decode cX6_worst 45 = .ok (.istore_n 2, 1) := by decide +kernel
theorem dX6_worst_46 : decode cX6_worst 46 = .ok (.iload_n 3, 1) := by decide +kernel
theorem dX6_worst_47 : decode cX6_worst 47 = .ok (.istore_n 1, 1) := by decide +kernel
theorem dX6_worst_48 : decode cX6_worst 48 = .ok (.iinc 3 1, 3) := by decide +kernel
theorem dX6_worst_51 : decode cX6_worst 51 = .ok (.goto (-45), 3) := by decide +kernel
theorem dX6_worst_54 : decode cX6_worst 54 = .ok (.iload_n 1, 1) := by decide +kernel
theorem dX6_worst_55 : decode cX6_worst 55 = .ok (.ifCond .ge 12, 3) := by decide +kernel
theorem dX6_worst_58 : decode cX6_worst 58 = .ok (.aload_n 0, 1) := by decide +kernel
theorem dX6_worst_59 : decode cX6_worst 59 = .ok (.ldc 207, 2) := by decide +kernel
theorem dX6_worst_61 : decode cX6_worst 61 = .ok (.invokevirtual 72, 3) := by decide +kernel
theorem dX6_worst_64 : decode cX6_worst 64 = .ok (.goto 4, 3) := by decide +kernel
theorem dX6_worst_67 : decode cX6_worst 67 = .ok (.iload_n 1, 1) := by decide +kernel
theorem dX6_worst_68 : decode cX6_worst 68 = .ok (.ireturn, 1) := by decide +kernel
theorem dX6_seed_0 : decode cX6_seed 0 = .ok (.aload_n 0, 1) := by decide +kernel
theorem dX6_seed_1 : decode cX6_seed 1 = .ok (.getfield 12, 3) := by decide +kernel
theorem dX6_seed_4 : decode cX6_seed 4 = .ok (.getfield 294, 3) := by decide +kernel
theorem dX6_seed_7 : decode cX6_seed 7 = .ok (.istore_n 2, 1) := by decide +kernel
theorem dX6_seed_8 : decode cX6_seed 8 = .ok (.aload_n 0, 1) := by decide +kernel
theorem dX6_seed_9 : decode cX6_seed 9 = .ok (.getfield 12, 3) := by decide +kernel
theorem dX6_seed_12 : decode cX6_seed 12 = .ok (.iload_n 1, 1) := by decide +kernel
theorem dX6_seed_13 : decode cX6_seed 13 = .ok (.putfield 294, 3) := by decide +kernel
theorem dX6_seed_16 : decode cX6_seed 16 = .ok (.iload_n 2, 1) := by decide +kernel
theorem dX6_seed_17 : decode cX6_seed 17 = .ok (.ireturn, 1) := by decide +kernel
theorem dX6_feed_0 : decode cX6_feed 0 = .ok (.iload_n 2, 1) := by decide +kernel
theorem dX6_feed_1 : decode cX6_feed 1 = .ok (.iconst 1, 1) := by decide +kernel
theorem dX6_feed_2 : decode cX6_feed 2 = .ok (.iconst 4, 1) := by decide +kernel
theorem dX6_feed_3 : decode cX6_feed 3 = .ok (.invokestatic 79, 3) := by decide +kernel
theorem dX6_feed_6 : decode cX6_feed 6 = .ok (.ifCond .ne 10, 3) := by decide +kernel
theorem dX6_feed_9 : decode cX6_feed 9 = .ok (.aload_n 0, 1) := by decide +kernel
theorem dX6_feed_10 : decode cX6_feed 10 = .ok (.ldc 71, 2) := by decide +kernel
theorem dX6_feed_12 : decode cX6_feed 12 = .ok (.invokevirtual 72, 3) := by decide +kernel
theorem dX6_feed_15 : decode cX6_feed 15 = .ok (.ireturn, 1) := by decide +kernel
theorem dX6_feed_16 : decode cX6_feed 16 = .ok (.aload_n 0, 1) := by decide +kernel
theorem dX6_feed_17 : decode cX6_feed 17 = .ok (.getfield 50, 3) := by decide +kernel
theorem dX6_feed_20 : decode cX6_feed 20 = .ok (.getfield 297, 3) := by decide +kernel
theorem dX6_feed_23 : decode cX6_feed 23 = .ok (.bipush 120, 2) := by decide +kernel
theorem dX6_feed_25 : decode cX6_feed 25 = .ok (.iload_n 2, 1) := by decide +kernel
theorem dX6_feed_26 : decode cX6_feed 26 = .ok (.isub, 1) := by decide +kernel
theorem dX6_feed_27 : decode cX6_feed 27 = .ok (.if_icmp .le 10, 3) := by decide +kernel
theorem dX6_feed_30 : decode cX6_feed 30 = .ok (.aload_n 0, 1) := by decide +kernel
theorem dX6_feed_31 : decode cX6_feed 31 = .ok (.ldc 109, 2) := by decide +kernel
theorem dX6_feed_33 : decode cX6_feed 33 = .ok (.invokevirtual 72, 3) := by decide +kernel
theorem dX6_feed_36 : decode cX6_feed 36 = .ok (.ireturn, 1) := by decide +kernel
theorem dX6_feed_37 : decode cX6_feed 37 = .ok (.iload_n 2, 1) := by decide +kernel
theorem dX6_feed_38 : decode cX6_feed 38 = .ok (.iconst 1, 1) := by decide +kernel
theorem dX6_feed_39 : decode cX6_feed 39 = .ok (.isub, 1) := by decide +kernel
theorem dX6_feed_40 : decode cX6_feed 40 = .ok (.istore_n 3, 1) := by decide +kernel
theorem dX6_feed_41 : decode cX6_feed 41 = .ok (.iload_n 3, 1) := by decide +kernel
theorem dX6_feed_42 : decode cX6_feed 42 = .ok (.ifCond .lt 26, 3) := by decide +kernel
theorem dX6_feed_45 : decode cX6_feed 45 = .ok (.aload_n 0, 1) := by decide +kernel
theorem dX6_feed_46 : decode cX6_feed 46 = .ok (.getfield 50, 3) := by decide +kernel
theorem dX6_feed_49 : decode cX6_feed 49 = .ok (.iload_n 1, 1) := by decide +kernel
theorem dX6_feed_50 : decode cX6_feed 50 = .ok (.bipush 8, 2) := by decide +kernel
theorem dX6_feed_52 : decode cX6_feed 52 = .ok (.iload_n 3, 1) := by decide +kernel
theorem dX6_feed_53 : decode cX6_feed 53 = .ok (.imul, 1) := by decide +kernel
theorem dX6_feed_54 : decode cX6_feed 54 = .ok (.iushr, 1) := by decide +kernel
theorem dX6_feed_55 : decode cX6_feed 55 = .ok (.sipush 255, 3) := by decide +kernel
theorem dX6_feed_58 : decode cX6_feed 58 = .ok (.iand, 1) := by decide +kernel
theorem dX6_feed_59 : decode cX6_feed 59 = .ok (.invokevirtual 298, 3) := by decide +kernel
theorem dX6_feed_62 : decode cX6_feed 62 = .ok (.iinc 3 (-1), 3) := by decide +kernel
theorem dX6_feed_65 : decode cX6_feed 65 = .ok (.goto (-24), 3) := by decide +kernel
theorem dX6_feed_68 : decode cX6_feed 68 = .ok (.aload_n 0, 1) := by decide +kernel
theorem dX6_feed_69 : decode cX6_feed 69 = .ok (.getfield 50, 3) := by decide +kernel
theorem dX6_feed_72 : decode cX6_feed 72 = .ok (.getfield 297, 3) := by decide +kernel
theorem dX6_feed_75 : decode cX6_feed 75 = .ok (.ireturn, 1) := by decide +kernel
theorem dX6_wipe_0 : decode cX6_wipe 0 = .ok (.aload_n 0, 1) := by decide +kernel
theorem dX6_wipe_1 : decode cX6_wipe 1 = .ok (.getfield 50, 3) := by decide +kernel
theorem dX6_wipe_4 : decode cX6_wipe 4 = .ok (.getfield 297, 3) := by decide +kernel
theorem dX6_wipe_7 : decode cX6_wipe 7 = .ok (.istore_n 1, 1) := by decide +kernel
theorem dX6_wipe_8 : decode cX6_wipe 8 = .ok (.aload_n 0, 1) := by decide +kernel
theorem dX6_wipe_9 : decode cX6_wipe 9 = .ok (.getfield 50, 3) := by decide +kernel
theorem dX6_wipe_12 : decode cX6_wipe 12 = .ok (.iconst 0, 1) := by decide +kernel
theorem dX6_wipe_13 : decode cX6_wipe 13 = .ok (.putfield 297, 3) := by decide +kernel
theorem dX6_wipe_16 : decode cX6_wipe 16 = .ok (.iload_n 1, 1) := by decide +kernel
theorem dX6_wipe_17 : decode cX6_wipe 17 = .ok (.ireturn, 1) := by decide +kernel
theorem dX6_text_0 : decode cX6_text 0 = .ok (.aload_n 0, 1) := by decide +kernel
theorem dX6_text_1 : decode cX6_text 1 = .ok (.getfield 23, 3) := by decide +kernel
theorem dX6_text_4 : decode cX6_text 4 = .ok (.aload_n 0, 1) := by decide +kernel
theorem dX6_text_5 : decode cX6_text 5 = .ok (.getfield 12, 3) := by decide +kernel
theorem dX6_text_8 : decode cX6_text 8 = .ok (.invokevirtual 194, 3) := by decide +kernel
theorem dX6_text_11 : decode cX6_text 11 = .ok (.aload_n 0, 1) := by decide +kernel
theorem dX6_text_12 : decode cX6_text 12 = .ok (.getfield 50, 3) := by decide +kernel
theorem dX6_text_15 : decode cX6_text 15 = .ok (.aload_n 0, 1) := by decide +kernel
theorem dX6_text_16 : decode cX6_text 16 = .ok (.getfield 23, 3) := by decide +kernel
theorem dX6_text_19 : decode cX6_text 19 = .ok (.invokevirtual 301, 3) := by decide +kernel
theorem dX6_text_22 : decode cX6_text 22 = .ok (.istore_n 1, 1) := by decide +kernel
theorem dX6_text_23 : decode cX6_text 23 = .ok (.iload_n 1, 1) := by decide +kernel
theorem dX6_text_24 : decode cX6_text 24 = .ok (.ifCond .le 14, 3) := by decide +kernel
theorem dX6_text_27 : decode cX6_text 27 = .ok (.aload_n 0, 1) := by decide +kernel
theorem dX6_text_28 : decode cX6_text 28 = .ok (.getfield 12, 3) := by decide +kernel
theorem dX6_text_31 : decode cX6_text 31 = .ok (.aload_n 0, 1) := by decide +kernel
theorem dX6_text_32 : decode cX6_text 32 = .ok (.getfield 23, 3) := by decide +kernel
theorem dX6_text_35 : decode cX6_text 35 = .ok (.invokevirtual 194, 3) := by decide +kernel
theorem dX6_text_38 : decode cX6_text 38 = .ok (.aload_n 0, 1) := by decide +kernel
theorem dX6_text_39 : decode cX6_text 39 = .ok (.getfield 50, 3) := by decide +kernel
theorem dX6_text_42 : decode cX6_text 42 = .ok (.iconst 0, 1) := by decide +kernel
theorem dX6_text_43 : decode cX6_text 43 = .ok (.putfield 297, 3) := by decide +kernel
theorem dX6_text_46 : decode cX6_text 46 = .ok (.iload_n 1, 1) := by decide +kernel
theorem dX6_text_47 : decode cX6_text 47 = .ok (.ireturn, 1) := by decide +kernel
theorem dX6_hold_0 : decode cX6_hold 0 = .ok (.iload_n 1, 1) := by decide +kernel
theorem dX6_hold_1 : decode cX6_hold 1 = .ok (.iconst 0, 1) := by decide +kernel
theorem dX6_hold_2 : decode cX6_hold 2 = .ok (.bipush 9, 2) := by decide +kernel
theorem dX6_hold_4 : decode cX6_hold 4 = .ok (.invokestatic 79, 3) := by decide +kernel
theorem dX6_hold_7 : decode cX6_hold 7 = .ok (.ifCond .eq 16, 3) := by decide +kernel
theorem dX6_hold_10 : decode cX6_hold 10 = .ok (.iload_n 2, 1) := by decide +kernel
theorem dX6_hold_11 : decode cX6_hold 11 = .ok (.iconst (-1), 1) := by decide +kernel
theorem dX6_hold_12 : decode cX6_hold 12 = .ok (.if_icmp .eq 18, 3) := by decide +kernel
theorem dX6_hold_15 : decode cX6_hold 15 = .ok (.aload_n 0, 1) := by decide +kernel
theorem dX6_hold_16 : decode cX6_hold 16 = .ok (.iload_n 2, 1) := by decide +kernel
theorem dX6_hold_17 : decode cX6_hold 17 = .ok (.invokevirtual 117, 3) := by decide +kernel
theorem dX6_hold_20 : decode cX6_hold 20 = .ok (.ifCond .ne 10, 3) := by decide +kernel
theorem dX6_hold_23 : decode cX6_hold 23 = .ok (.aload_n 0, 1) := by decide +kernel
theorem dX6_hold_24 : decode cX6_hold 24 = .ok (.ldc 71, 2) := by decide +kernel
theorem dX6_hold_26 : decode cX6_hold 26 = .ok (.invokevirtual 72, 3) := by decide +kernel
theorem dX6_hold_29 : decode cX6_hold 29 = .ok (.ireturn, 1) := by decide +kernel
theorem dX6_hold_30 : decode cX6_hold 30 = .ok (.aload_n 0, 1) := by decide +kernel
theorem dX6_hold_31 : decode cX6_hold 31 = .ok (.getfield 12, 3) := by decide +kernel
theorem dX6_hold_34 : decode cX6_hold 34 = .ok (.getfield 305, 3) := by decide +kernel
theorem dX6_hold_37 : decode cX6_hold 37 = .ok (.iload_n 1, 1) := by decide +kernel
theorem dX6_hold_38 : decode cX6_hold 38 = .ok (.iload_n 2, 1) := by decide +kernel
theorem dX6_hold_39 : decode cX6_hold 39 = .ok (.iastore, 1) := by decide +kernel
theorem dX6_hold_40 : decode cX6_hold 40 = .ok (.iconst 1, 1) := by decide +kernel
theorem dX6_hold_41 : decode cX6_hold 41 = .ok (.ireturn, 1) := by decide +kernel
theorem dX6_as_0 : decode cX6_as 0 = .ok (.iload_n 1, 1) := by decide +kernel
theorem dX6_as_1 : decode cX6_as 1 = .ok (.iconst 0, 1) := by decide +kernel
theorem dX6_as_2 : decode cX6_as 2 = .ok (.bipush 9, 2) := by decide +kernel
theorem dX6_as_4 : decode cX6_as 4 = .ok (.invokestatic 79, 3) := by decide +kernel
theorem dX6_as_7 : decode cX6_as 7 = .ok (.ifCond .eq 10, 3) := by decide +kernel
theorem dX6_as_10 : decode cX6_as 10 = .ok (.iload_n 2, 1) := by decide +kernel
theorem dX6_as_11 : decode cX6_as 11 = .ok (.invokestatic 99, 3) := by decide +kernel
theorem dX6_as_14 : decode cX6_as 14 = .ok (.ifCond .ne 10, 3) := by decide +kernel
theorem dX6_as_17 : decode cX6_as 17 = .ok (.aload_n 0, 1) := by decide +kernel
theorem dX6_as_18 : decode cX6_as 18 = .ok (.ldc 71, 2) := by decide +kernel
theorem dX6_as_20 : decode cX6_as 20 = .ok (.invokevirtual 72, 3) := by decide +kernel
theorem dX6_as_23 : decode cX6_as 23 = .ok (.ireturn, 1) := by decide +kernel
theorem dX6_as_24 : decode cX6_as 24 = .ok (.aload_n 0, 1) := by decide +kernel
theorem dX6_as_25 : decode cX6_as 25 = .ok (.getfield 12, 3) := by decide +kernel
theorem dX6_as_28 : decode cX6_as 28 = .ok (.getfield 305, 3) := by decide +kernel
theorem dX6_as_31 : decode cX6_as 31 = .ok (.iload_n 1, 1) := by decide +kernel
theorem dX6_as_32 : decode cX6_as 32 = .ok (.iaload, 1) := by decide +kernel
theorem dX6_as_33 : decode cX6_as 33 = .ok (.istore_n 3, 1) := by decide +kernel
theorem dX6_as_34 : decode cX6_as 34 = .ok (.aload_n 0, 1) := by decide +kernel
theorem dX6_as_35 : decode cX6_as 35 = .ok (.iload_n 3, 1) := by decide +kernel
theorem dX6_as_36 : decode cX6_as 36 = .ok (.invokevirtual 117, 3) := by decide +kernel
theorem dX6_as_39 : decode cX6_as 39 = .ok (.ifCond .ne 11, 3) := by decide +kernel
theorem dX6_as_42 : decode cX6_as 42 = .ok (.aload_n 0, 1) := by decide +kernel
theorem dX6_as_43 : decode cX6_as 43 = .ok (.ldc_w 308, 3) := by decide +kernel
theorem dX6_as_46 : decode cX6_as 46 = .ok (.invokevirtual 72, 3) := by decide +kernel
theorem dX6_as_49 : decode cX6_as 49 = .ok (.ireturn, 1) := by decide +kernel
theorem dX6_as_50 : decode cX6_as 50 = .ok (.aload_n 0, 1) := by decide +kernel
theorem dX6_as_51 : decode cX6_as 51 = .ok (.getfield 12, 3) := by decide +kernel
theorem dX6_as_54 : decode cX6_as 54 = .ok (.getfield 120, 3) := by decide +kernel
theorem dX6_as_57 : decode cX6_as 57 = .ok (.iload_n 3, 1) := by decide +kernel
