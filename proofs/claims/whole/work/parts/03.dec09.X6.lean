theorem dX6_as_58 : decode cX6_as 58 = .ok (.aaload, 1) := by decide +kernel
theorem dX6_as_59 : decode cX6_as 59 = .ok (.iload_n 2, 1) := by decide +kernel
theorem dX6_as_60 : decode cX6_as 60 = .ok (.invokevirtual 309, 3) := by decide +kernel
theorem dX6_as_63 : decode cX6_as 63 = .ok (.ifCond .eq 7, 3) := by decide +kernel
theorem dX6_as_66 : decode cX6_as 66 = .ok (.iload_n 3, 1) := by decide +kernel
theorem dX6_as_67 : decode cX6_as 67 = .ok (.goto 10, 3) := by decide +kernel
theorem dX6_as_70 : decode cX6_as 70 = .ok (.aload_n 0, 1) := by decide +kernel
theorem dX6_as_71 : decode cX6_as 71 = .ok (.ldc_w 312, 3) := by decide +kernel
theorem dX6_as_74 : decode cX6_as 74 = .ok (.invokevirtual 72, 3) := by decide +kernel
theorem dX6_as_77 : decode cX6_as 77 = .ok (.ireturn, 1) := by decide +kernel
theorem dX6_sheet_0 : decode cX6_sheet 0 = .ok (.iload_n 1, 1) := by decide +kernel
theorem dX6_sheet_1 : decode cX6_sheet 1 = .ok (.invokestatic 313, 3) := by decide +kernel
theorem dX6_sheet_4 : decode cX6_sheet 4 = .ok (.ifCond .eq 25, 3) := by decide +kernel
theorem dX6_sheet_7 : decode cX6_sheet 7 = .ok (.iload_n 2, 1) := by decide +kernel
theorem dX6_sheet_8 : decode cX6_sheet 8 = .ok (.ifCond .eq 28, 3) := by decide +kernel
theorem dX6_sheet_11 : decode cX6_sheet 11 = .ok (.iload_n 2, 1) := by decide +kernel
theorem dX6_sheet_12 : decode cX6_sheet 12 = .ok (.bipush 8, 2) := by decide +kernel
theorem dX6_sheet_14 : decode cX6_sheet 14 = .ok (.if_icmp .eq 22, 3) := by decide +kernel
theorem dX6_sheet_17 : decode cX6_sheet 17 = .ok (.iload_n 2, 1) := by decide +kernel
theorem dX6_sheet_18 : decode cX6_sheet 18 = .ok (.bipush 16, 2) := by decide +kernel
theorem dX6_sheet_20 : decode cX6_sheet 20 = .ok (.if_icmp .eq 16, 3) := by decide +kernel
theorem dX6_sheet_23 : decode cX6_sheet 23 = .ok (.iload_n 2, 1) := by decide +kernel
theorem dX6_sheet_24 : decode cX6_sheet 24 = .ok (.bipush 32, 2) := by decide +kernel
theorem dX6_sheet_26 : decode cX6_sheet 26 = .ok (.if_icmp .eq 10, 3) := by decide +kernel
theorem dX6_sheet_29 : decode cX6_sheet 29 = .ok (.aload_n 0, 1) := by decide +kernel
theorem dX6_sheet_30 : decode cX6_sheet 30 = .ok (.ldc 71, 2) := by decide +kernel
theorem dX6_sheet_32 : decode cX6_sheet 32 = .ok (.invokevirtual 72, 3) := by decide +kernel
theorem dX6_sheet_35 : decode cX6_sheet 35 = .ok (.ireturn, 1) := by decide +kernel
theorem dX6_sheet_36 : decode cX6_sheet 36 = .ok (.iload_n 3, 1) := by decide +kernel
theorem dX6_sheet_37 : decode cX6_sheet 37 = .ok (.ifCond .ge 11, 3) := by decide +kernel
theorem dX6_sheet_40 : decode cX6_sheet 40 = .ok (.aload_n 0, 1) := by decide +kernel
theorem dX6_sheet_41 : decode cX6_sheet 41 = .ok (.ldc_w 316, 3) := by decide +kernel
theorem dX6_sheet_44 : decode cX6_sheet 44 = .ok (.invokevirtual 72, 3) := by decide +kernel
theorem dX6_sheet_47 : decode cX6_sheet 47 = .ok (.ireturn, 1) := by decide +kernel
theorem dX6_sheet_48 : decode cX6_sheet 48 = .ok (.iload_n 3, 1) := by decide +kernel
theorem dX6_sheet_49 : decode cX6_sheet 49 = .ok (.bipush 40, 2) := by decide +kernel
theorem dX6_sheet_51 : decode cX6_sheet 51 = .ok (.if_icmp .le 10, 3) := by decide +kernel
theorem dX6_sheet_54 : decode cX6_sheet 54 = .ok (.aload_n 0, 1) := by decide +kernel
theorem dX6_sheet_55 : decode cX6_sheet 55 = .ok (.ldc 71, 2) := by decide +kernel
theorem dX6_sheet_57 : decode cX6_sheet 57 = .ok (.invokevirtual 72, 3) := by decide +kernel
theorem dX6_sheet_60 : decode cX6_sheet 60 = .ok (.ireturn, 1) := by decide +kernel
theorem dX6_sheet_61 : decode cX6_sheet 61 = .ok (.aload_n 0, 1) := by decide +kernel
theorem dX6_sheet_62 : decode cX6_sheet 62 = .ok (.getfield 56, 3) := by decide +kernel
theorem dX6_sheet_65 : decode cX6_sheet 65 = .ok (.iload_n 1, 1) := by decide +kernel
theorem dX6_sheet_66 : decode cX6_sheet 66 = .ok (.aaload, 1) := by decide +kernel
theorem dX6_sheet_67 : decode cX6_sheet 67 = .ok (.iload_n 2, 1) := by decide +kernel
theorem dX6_sheet_68 : decode cX6_sheet 68 = .ok (.iload_n 3, 1) := by decide +kernel
theorem dX6_sheet_69 : decode cX6_sheet 69 = .ok (.invokevirtual 317, 3) := by decide +kernel
theorem dX6_sheet_72 : decode cX6_sheet 72 = .ok (.aload_n 0, 1) := by decide +kernel
theorem dX6_sheet_73 : decode cX6_sheet 73 = .ok (.getfield 56, 3) := by decide +kernel
theorem dX6_sheet_76 : decode cX6_sheet 76 = .ok (.iload_n 1, 1) := by decide +kernel
theorem dX6_sheet_77 : decode cX6_sheet 77 = .ok (.aaload, 1) := by decide +kernel
theorem dX6_sheet_78 : decode cX6_sheet 78 = .ok (.getfield 320, 3) := by decide +kernel
theorem dX6_sheet_81 : decode cX6_sheet 81 = .ok (.ireturn, 1) := by decide +kernel
theorem dX6_write_0 : decode cX6_write 0 = .ok (.iload_n 1, 1) := by decide +kernel
theorem dX6_write_1 : decode cX6_write 1 = .ok (.invokestatic 313, 3) := by decide +kernel
theorem dX6_write_4 : decode cX6_write 4 = .ok (.ifCond .ne 10, 3) := by decide +kernel
theorem dX6_write_7 : decode cX6_write 7 = .ok (.aload_n 0, 1) := by decide +kernel
theorem dX6_write_8 : decode cX6_write 8 = .ok (.ldc 71, 2) := by decide +kernel
theorem dX6_write_10 : decode cX6_write 10 = .ok (.invokevirtual 72, 3) := by decide +kernel
theorem dX6_write_13 : decode cX6_write 13 = .ok (.ireturn, 1) := by decide +kernel
theorem dX6_write_14 : decode cX6_write 14 = .ok (.aload_n 0, 1) := by decide +kernel
theorem dX6_write_15 : decode cX6_write 15 = .ok (.getfield 56, 3) := by decide +kernel
theorem dX6_write_18 : decode cX6_write 18 = .ok (.iload_n 1, 1) := by decide +kernel
theorem dX6_write_19 : decode cX6_write 19 = .ok (.aaload, 1) := by decide +kernel
theorem dX6_write_20 : decode cX6_write 20 = .ok (.invokevirtual 321, 3) := by decide +kernel
theorem dX6_write_23 : decode cX6_write 23 = .ok (.ifCond .eq 11, 3) := by decide +kernel
theorem dX6_write_26 : decode cX6_write 26 = .ok (.aload_n 0, 1) := by decide +kernel
theorem dX6_write_27 : decode cX6_write 27 = .ok (.ldc_w 308, 3) := by decide +kernel
theorem dX6_write_30 : decode cX6_write 30 = .ok (.invokevirtual 72, 3) := by decide +kernel
theorem dX6_write_33 : decode cX6_write 33 = .ok (.ireturn, 1) := by decide +kernel
theorem dX6_write_34 : decode cX6_write 34 = .ok (.iload_n 2, 1) := by decide +kernel
theorem dX6_write_35 : decode cX6_write 35 = .ok (.iconst 0, 1) := by decide +kernel
theorem dX6_write_36 : decode cX6_write 36 = .ok (.aload_n 0, 1) := by decide +kernel
theorem dX6_write_37 : decode cX6_write 37 = .ok (.getfield 56, 3) := by decide +kernel
theorem dX6_write_40 : decode cX6_write 40 = .ok (.iload_n 1, 1) := by decide +kernel
theorem dX6_write_41 : decode cX6_write 41 = .ok (.aaload, 1) := by decide +kernel
theorem dX6_write_42 : decode cX6_write 42 = .ok (.getfield 320, 3) := by decide +kernel
theorem dX6_write_45 : decode cX6_write 45 = .ok (.iconst 1, 1) := by decide +kernel
theorem dX6_write_46 : decode cX6_write 46 = .ok (.isub, 1) := by decide +kernel
theorem dX6_write_47 : decode cX6_write 47 = .ok (.invokestatic 79, 3) := by decide +kernel
theorem dX6_write_50 : decode cX6_write 50 = .ok (.ifCond .ne 10, 3) := by decide +kernel
theorem dX6_write_53 : decode cX6_write 53 = .ok (.aload_n 0, 1) := by decide +kernel
theorem dX6_write_54 : decode cX6_write 54 = .ok (.ldc 71, 2) := by decide +kernel
theorem dX6_write_56 : decode cX6_write 56 = .ok (.invokevirtual 72, 3) := by decide +kernel
theorem dX6_write_59 : decode cX6_write 59 = .ok (.ireturn, 1) := by decide +kernel
theorem dX6_write_60 : decode cX6_write 60 = .ok (.aload_n 0, 1) := by decide +kernel
theorem dX6_write_61 : decode cX6_write 61 = .ok (.getfield 56, 3) := by decide +kernel
theorem dX6_write_64 : decode cX6_write 64 = .ok (.iload_n 1, 1) := by decide +kernel
theorem dX6_write_65 : decode cX6_write 65 = .ok (.aaload, 1) := by decide +kernel
theorem dX6_write_66 : decode cX6_write 66 = .ok (.getfield 324, 3) := by decide +kernel
theorem dX6_write_69 : decode cX6_write 69 = .ok (.iload_n 2, 1) := by decide +kernel
theorem dX6_write_70 : decode cX6_write 70 = .ok (.aload_n 0, 1) := by decide +kernel
theorem dX6_write_71 : decode cX6_write 71 = .ok (.getfield 56, 3) := by decide +kernel
theorem dX6_write_74 : decode cX6_write 74 = .ok (.iload_n 1, 1) := by decide +kernel
theorem dX6_write_75 : decode cX6_write 75 = .ok (.aaload, 1) := by decide +kernel
theorem dX6_write_76 : decode cX6_write 76 = .ok (.iload_n 3, 1) := by decide +kernel
theorem dX6_write_77 : decode cX6_write 77 = .ok (.invokevirtual 327, 3) := by decide +kernel
theorem dX6_write_80 : decode cX6_write 80 = .ok (.iastore, 1) := by decide +kernel
theorem dX6_write_81 : decode cX6_write 81 = .ok (.iconst 1, 1) := by decide +kernel
theorem dX6_write_82 : decode cX6_write 82 = .ok (.ireturn, 1) := by decide +kernel
theorem dX6_copy_0 : decode cX6_copy 0 = .ok (.iload_n 1, 1) := by decide +kernel
theorem dX6_copy_1 : decode cX6_copy 1 = .ok (.invokestatic 313, 3) := by decide +kernel
theorem dX6_copy_4 : decode cX6_copy 4 = .ok (.ifCond .eq 10, 3) := by decide +kernel
theorem dX6_copy_7 : decode cX6_copy 7 = .ok (.iload_n 3, 1) := by decide +kernel
theorem dX6_copy_8 : decode cX6_copy 8 = .ok (.invokestatic 313, 3) := by decide +kernel
theorem dX6_copy_11 : decode cX6_copy 11 = .ok (.ifCond .ne 10, 3) := by decide +kernel
theorem dX6_copy_14 : decode cX6_copy 14 = .ok (.aload_n 0, 1) := by decide +kernel
theorem dX6_copy_15 : decode cX6_copy 15 = .ok (.ldc 71, 2) := by decide +kernel
theorem dX6_copy_17 : decode cX6_copy 17 = .ok (.invokevirtual 72, 3) := by decide +kernel
theorem dX6_copy_20 : decode cX6_copy 20 = .ok (.ireturn, 1) := by decide +kernel
theorem dX6_copy_21 : decode cX6_copy 21 = .ok (.aload_n 0, 1) := by decide +kernel
theorem dX6_copy_22 : decode cX6_copy 22 = .ok (.getfield 56, 3) := by decide +kernel
theorem dX6_copy_25 : decode cX6_copy 25 = .ok (.iload_n 1, 1) := by decide +kernel
theorem dX6_copy_26 : decode cX6_copy 26 = .ok (.aaload, 1) := by decide +kernel
theorem dX6_copy_27 : decode cX6_copy 27 = .ok (.invokevirtual 321, 3) := by decide +kernel
theorem dX6_copy_30 : decode cX6_copy 30 = .ok (.ifCond .ne 15, 3) := by decide +kernel
theorem dX6_copy_33 : decode cX6_copy 33 = .ok (.aload_n 0, 1) := by decide +kernel
theorem dX6_copy_34 : decode cX6_copy 34 = .ok (.getfield 56, 3) := by decide +kernel
theorem dX6_copy_37 : decode cX6_copy 37 = .ok (.iload_n 3, 1) := by decide +kernel
theorem dX6_copy_38 : decode cX6_copy 38 = .ok (.aaload, 1) := by decide +kernel
theorem dX6_copy_39 : decode cX6_copy 39 = .ok (.invokevirtual 321, 3) := by decide +kernel
theorem dX6_copy_42 : decode cX6_copy 42 = .ok (.ifCond .eq 11, 3) := by decide +kernel
theorem dX6_copy_45 : decode cX6_copy 45 = .ok (.aload_n 0, 1) := by decide +kernel
theorem dX6_copy_46 : decode cX6_copy 46 = .ok (.ldc_w 308, 3) := by decide +kernel
theorem dX6_copy_49 : decode cX6_copy 49 = .ok (.invokevirtual 72, 3) := by decide +kernel
theorem dX6_copy_52 : decode cX6_copy 52 = .ok (.ireturn, 1) := by decide +kernel
theorem dX6_copy_53 : decode cX6_copy 53 = .ok (.aload_n 0, 1) := by decide +kernel
theorem dX6_copy_54 : decode cX6_copy 54 = .ok (.getfield 56, 3) := by decide +kernel
theorem dX6_copy_57 : decode cX6_copy 57 = .ok (.iload_n 1, 1) := by decide +kernel
theorem dX6_copy_58 : decode cX6_copy 58 = .ok (.aaload, 1) := by decide +kernel
theorem dX6_copy_59 : decode cX6_copy 59 = .ok (.getfield 330, 3) := by decide +kernel
theorem dX6_copy_62 : decode cX6_copy 62 = .ok (.aload_n 0, 1) := by decide +kernel
theorem dX6_copy_63 : decode cX6_copy 63 = .ok (.getfield 56, 3) := by decide +kernel
theorem dX6_copy_66 : decode cX6_copy 66 = .ok (.iload_n 3, 1) := by decide +kernel
theorem dX6_copy_67 : decode cX6_copy 67 = .ok (.aaload, 1) := by decide +kernel
theorem dX6_copy_68 : decode cX6_copy 68 = .ok (.getfield 330, 3) := by decide +kernel
theorem dX6_copy_71 : decode cX6_copy 71 = .ok (.if_icmp .eq 11, 3) := by decide +kernel
theorem dX6_copy_74 : decode cX6_copy 74 = .ok (.aload_n 0, 1) := by decide +kernel
theorem dX6_copy_75 : decode cX6_copy 75 = .ok (.ldc_w 312, 3) := by decide +kernel
theorem dX6_copy_78 : decode cX6_copy 78 = .ok (.invokevirtual 72, 3) := by decide +kernel
theorem dX6_copy_81 : decode cX6_copy 81 = .ok (.ireturn, 1) := by decide +kernel
theorem dX6_copy_82 : decode cX6_copy 82 = .ok (.aload_n 0, 1) := by decide +kernel
theorem dX6_copy_83 : decode cX6_copy 83 = .ok (.getfield 56, 3) := by decide +kernel
theorem dX6_copy_86 : decode cX6_copy 86 = .ok (.iload_n 1, 1) := by decide +kernel
theorem dX6_copy_87 : decode cX6_copy 87 = .ok (.aaload, 1) := by decide +kernel
theorem dX6_copy_88 : decode cX6_copy 88 = .ok (.iload_n 2, 1) := by decide +kernel
theorem dX6_copy_89 : decode cX6_copy 89 = .ok (.iload 5, 2) := by decide +kernel
theorem dX6_copy_91 : decode cX6_copy 91 = .ok (.invokevirtual 333, 3) := by decide +kernel
theorem dX6_copy_94 : decode cX6_copy 94 = .ok (.ifCond .eq 19, 3) := by decide +kernel
theorem dX6_copy_97 : decode cX6_copy 97 = .ok (.aload_n 0, 1) := by decide +kernel
theorem dX6_copy_98 : decode cX6_copy 98 = .ok (.getfield 56, 3) := by decide +kernel
theorem dX6_copy_101 : decode cX6_copy 101 = .ok (.iload_n 3, 1) := by decide +kernel
theorem dX6_copy_102 : decode cX6_copy 102 = .ok (.aaload, 1) := by decide +kernel
theorem dX6_copy_103 : decode cX6_copy 103 = .ok (.iload 4, 2) := by decide +kernel
theorem dX6_copy_105 : decode cX6_copy 105 = .ok (.iload 5, 2) := by decide +kernel
theorem dX6_copy_107 : decode cX6_copy 107 = .ok (.invokevirtual 333, 3) := by decide +kernel
theorem dX6_copy_110 : decode cX6_copy 110 = .ok (.ifCond .ne 10, 3) := by decide +kernel
theorem dX6_copy_113 : decode cX6_copy 113 = .ok (.aload_n 0, 1) := by decide +kernel
theorem dX6_copy_114 : decode cX6_copy 114 = .ok (.ldc 71, 2) := by decide +kernel
theorem dX6_copy_116 : decode cX6_copy 116 = .ok (.invokevirtual 72, 3) := by decide +kernel
theorem dX6_copy_119 : decode cX6_copy 119 = .ok (.ireturn, 1) := by decide +kernel
theorem dX6_copy_120 : decode cX6_copy 120 = .ok (.aload_n 0, 1) := by decide +kernel
theorem dX6_copy_121 : decode cX6_copy 121 = .ok (.getfield 56, 3) := by decide +kernel
theorem dX6_copy_124 : decode cX6_copy 124 = .ok (.iload_n 1, 1) := by decide +kernel
theorem dX6_copy_125 : decode cX6_copy 125 = .ok (.aaload, 1) := by decide +kernel
theorem dX6_copy_126 : decode cX6_copy 126 = .ok (.getfield 324, 3) := by decide +kernel
theorem dX6_copy_129 : decode cX6_copy 129 = .ok (.iload_n 2, 1) := by decide +kernel
theorem dX6_copy_130 : decode cX6_copy 130 = .ok (.aload_n 0, 1) := by decide +kernel
theorem dX6_copy_131 : decode cX6_copy 131 = .ok (.getfield 56, 3) := by decide +kernel
theorem dX6_copy_134 : decode cX6_copy 134 = .ok (.iload_n 3, 1) := by decide +kernel
theorem dX6_copy_135 : decode cX6_copy 135 = .ok (.aaload, 1) := by decide +kernel
theorem dX6_copy_136 : decode cX6_copy 136 = .ok (.getfield 324, 3) := by decide +kernel
theorem dX6_copy_139 : decode cX6_copy 139 = .ok (.iload 4, 2) := by decide +kernel
theorem dX6_copy_141 : decode cX6_copy 141 = .ok (.iload 5, 2) := by decide +kernel
theorem dX6_copy_143 : decode cX6_copy 143 = .ok (.invokestatic 336, 3) := by decide +kernel
theorem dX6_copy_146 : decode cX6_copy 146 = .ok (.iload 5, 2) := by decide +kernel
theorem dX6_copy_148 : decode cX6_copy 148 = .ok (.ireturn, 1) := by decide +kernel
theorem dX6_load_0 : decode cX6_load 0 = .ok (.iload_n 1, 1) := by decide +kernel
theorem dX6_load_1 : decode cX6_load 1 = .ok (.invokestatic 313, 3) := by decide +kernel
theorem dX6_load_4 : decode cX6_load 4 = .ok (.ifCond .ne 10, 3) := by decide +kernel
theorem dX6_load_7 : decode cX6_load 7 = .ok (.aload_n 0, 1) := by decide +kernel
theorem dX6_load_8 : decode cX6_load 8 = .ok (.ldc 71, 2) := by decide +kernel
theorem dX6_load_10 : decode cX6_load 10 = .ok (.invokevirtual 72, 3) := by decide +kernel
theorem dX6_load_13 : decode cX6_load 13 = .ok (.ireturn, 1) := by decide +kernel
theorem dX6_load_14 : decode cX6_load 14 = .ok (.aload_n 0, 1) := by decide +kernel
theorem dX6_load_15 : decode cX6_load 15 = .ok (.getfield 56, 3) := by decide +kernel
theorem dX6_load_18 : decode cX6_load 18 = .ok (.iload_n 1, 1) := by decide +kernel
theorem dX6_load_19 : decode cX6_load 19 = .ok (.aaload, 1) := by decide +kernel
theorem dX6_load_20 : decode cX6_load 20 = .ok (.invokevirtual 321, 3) := by decide +kernel
theorem dX6_load_23 : decode cX6_load 23 = .ok (.ifCond .eq 11, 3) := by decide +kernel
theorem dX6_load_26 : decode cX6_load 26 = .ok (.aload_n 0, 1) := by decide +kernel
theorem dX6_load_27 : decode cX6_load 27 = .ok (.ldc_w 308, 3) := by decide +kernel
theorem dX6_load_30 : decode cX6_load 30 = .ok (.invokevirtual 72, 3) := by decide +kernel
theorem dX6_load_33 : decode cX6_load 33 = .ok (.ireturn, 1) := by decide +kernel
theorem dX6_load_34 : decode cX6_load 34 = .ok (.iload_n 2, 1) := by decide +kernel
theorem dX6_load_35 : decode cX6_load 35 = .ok (.invokestatic 64, 3) := by decide +kernel
theorem dX6_load_38 : decode cX6_load 38 = .ok (.ifCond .ne 10, 3) := by decide +kernel
theorem dX6_load_41 : decode cX6_load 41 = .ok (.aload_n 0, 1) := by decide +kernel
theorem dX6_load_42 : decode cX6_load 42 = .ok (.ldc 71, 2) := by decide +kernel
theorem dX6_load_44 : decode cX6_load 44 = .ok (.invokevirtual 72, 3) := by decide +kernel
theorem dX6_load_47 : decode cX6_load 47 = .ok (.ireturn, 1) := by decide +kernel
theorem dX6_load_48 : decode cX6_load 48 = .ok (.aload_n 0, 1) := by decide +kernel
theorem dX6_load_49 : decode cX6_load 49 = .ok (.getfield 56, 3) := by decide +kernel
theorem dX6_load_52 : decode cX6_load 52 = .ok (.iload_n 1, 1) := by decide +kernel
theorem dX6_load_53 : decode cX6_load 53 = .ok (.aaload, 1) := by decide +kernel
theorem dX6_load_54 : decode cX6_load 54 = .ok (.getfield 320, 3) := by decide +kernel
theorem dX6_load_57 : decode cX6_load 57 = .ok (.bipush 31, 2) := by decide +kernel
theorem dX6_load_59 : decode cX6_load 59 = .ok (.iload_n 2, 1) := by decide +kernel
theorem dX6_load_60 : decode cX6_load 60 = .ok (.isub, 1) := by decide +kernel
theorem dX6_load_61 : decode cX6_load 61 = .ok (.invokestatic 342, 3) := by decide +kernel
theorem dX6_load_64 : decode cX6_load 64 = .ok (.istore_n 3, 1) := by decide +kernel
theorem dX6_load_65 : decode cX6_load 65 = .ok (.iconst 0, 1) := by decide +kernel
theorem dX6_load_66 : decode cX6_load 66 = .ok (.istore 4, 2) := by decide +kernel
theorem dX6_load_68 : decode cX6_load 68 = .ok (.iload 4, 2) := by decide +kernel
theorem dX6_load_70 : decode cX6_load 70 = .ok (.iload_n 3, 1) := by decide +kernel
theorem dX6_load_71 : decode cX6_load 71 = .ok (.if_icmp .ge 51, 3) := by decide +kernel
theorem dX6_load_74 : decode cX6_load 74 = .ok (.aload_n 0, 1) := by decide +kernel
theorem dX6_load_75 : decode cX6_load 75 = .ok (.getfield 56, 3) := by decide +kernel
theorem dX6_load_78 : decode cX6_load 78 = .ok (.iload_n 1, 1) := by decide +kernel
theorem dX6_load_79 : decode cX6_load 79 = .ok (.aaload, 1) := by decide +kernel
theorem dX6_load_80 : decode cX6_load 80 = .ok (.getfield 324, 3) := by decide +kernel
theorem dX6_load_83 : decode cX6_load 83 = .ok (.iload 4, 2) := by decide +kernel
theorem dX6_load_85 : decode cX6_load 85 = .ok (.iaload, 1) := by decide +kernel
theorem dX6_load_86 : decode cX6_load 86 = .ok (.invokestatic 68, 3) := by decide +kernel
theorem dX6_load_89 : decode cX6_load 89 = .ok (.ifCond .eq 33, 3) := by decide +kernel
theorem dX6_load_92 : decode cX6_load 92 = .ok (.aload_n 0, 1) := by decide +kernel
theorem dX6_load_93 : decode cX6_load 93 = .ok (.getfield 12, 3) := by decide +kernel
theorem dX6_load_96 : decode cX6_load 96 = .ok (.getfield 76, 3) := by decide +kernel
theorem dX6_load_99 : decode cX6_load 99 = .ok (.iload_n 2, 1) := by decide +kernel
theorem dX6_load_100 : decode cX6_load 100 = .ok (.iload 4, 2) := by decide +kernel
theorem dX6_load_102 : decode cX6_load 102 = .ok (.iadd, 1) := by decide +kernel
theorem dX6_load_103 : decode cX6_load 103 = .ok (.aload_n 0, 1) := by decide +kernel
theorem dX6_load_104 : decode cX6_load 104 = .ok (.getfield 56, 3) := by decide +kernel
theorem dX6_load_107 : decode cX6_load 107 = .ok (.iload_n 1, 1) := by decide +kernel
theorem dX6_load_108 : decode cX6_load 108 = .ok (.aaload, 1) := by decide +kernel
theorem dX6_load_109 : decode cX6_load 109 = .ok (.getfield 324, 3) := by decide +kernel
theorem dX6_load_112 : decode cX6_load 112 = .ok (.iload 4, 2) := by decide +kernel
theorem dX6_load_114 : decode cX6_load 114 = .ok (.iaload, 1) := by decide +kernel
theorem dX6_load_115 : decode cX6_load 115 = .ok (.iastore, 1) := by decide +kernel
theorem dX6_load_116 : decode cX6_load 116 = .ok (.iinc 4 1, 3) := by decide +kernel
theorem dX6_load_119 : decode cX6_load 119 = .ok (.goto (-51), 3) := by decide +kernel
theorem dX6_load_122 : decode cX6_load 122 = .ok (.iload 4, 2) := by decide +kernel
theorem dX6_load_124 : decode cX6_load 124 = .ok (.ireturn, 1) := by decide +kernel
theorem dX6_judge_0 : decode cX6_judge 0 = .ok (.iload_n 1, 1) := by decide +kernel
theorem dX6_judge_1 : decode cX6_judge 1 = .ok (.invokestatic 313, 3) := by decide +kernel
theorem dX6_judge_4 : decode cX6_judge 4 = .ok (.ifCond .ne 10, 3) := by decide +kernel
theorem dX6_judge_7 : decode cX6_judge 7 = .ok (.aload_n 0, 1) := by decide +kernel
theorem dX6_judge_8 : decode cX6_judge 8 = .ok (.ldc 71, 2) := by decide +kernel
theorem dX6_judge_10 : decode cX6_judge 10 = .ok (.invokevirtual 72, 3) := by decide +kernel
theorem dX6_judge_13 : decode cX6_judge 13 = .ok (.ireturn, 1) := by decide +kernel
theorem dX6_judge_14 : decode cX6_judge 14 = .ok (.aload_n 0, 1) := by decide +kernel
theorem dX6_judge_15 : decode cX6_judge 15 = .ok (.getfield 56, 3) := by decide +kernel
theorem dX6_judge_18 : decode cX6_judge 18 = .ok (.iload_n 1, 1) := by decide +kernel
theorem dX6_judge_19 : decode cX6_judge 19 = .ok (.aaload, 1) := by decide +kernel
theorem dX6_judge_20 : decode cX6_judge 20 = .ok (.invokevirtual 321, 3) := by decide +kernel
theorem dX6_judge_23 : decode cX6_judge 23 = .ok (.ifCond .eq 11, 3) := by decide +kernel
theorem dX6_judge_26 : decode cX6_judge 26 = .ok (.aload_n 0, 1) := by decide +kernel
theorem dX6_judge_27 : decode cX6_judge 27 = .ok (.ldc_w 308, 3) := by decide +kernel
theorem dX6_judge_30 : decode cX6_judge 30 = .ok (.invokevirtual 72, 3) := by decide +kernel
theorem dX6_judge_33 : decode cX6_judge 33 = .ok (.ireturn, 1) := by decide +kernel
theorem dX6_judge_34 : decode cX6_judge 34 = .ok (.aload_n 0, 1) := by decide +kernel
theorem dX6_judge_35 : decode cX6_judge 35 = .ok (.iload_n 2, 1) := by decide +kernel
theorem dX6_judge_36 : decode cX6_judge 36 = .ok (.invokevirtual 117, 3) := by decide +kernel
theorem dX6_judge_39 : decode cX6_judge 39 = .ok (.ifCond .ne 10, 3) := by decide +kernel
theorem dX6_judge_42 : decode cX6_judge 42 = .ok (.aload_n 0, 1) := by decide +kernel
theorem dX6_judge_43 : decode cX6_judge 43 = .ok (.ldc 71, 2) := by decide +kernel
theorem dX6_judge_45 : decode cX6_judge 45 = .ok (.invokevirtual 72, 3) := by decide +kernel
theorem dX6_judge_48 : decode cX6_judge 48 = .ok (.ireturn, 1) := by decide +kernel
theorem dX6_judge_49 : decode cX6_judge 49 = .ok (.aload_n 0, 1) := by decide +kernel
theorem dX6_judge_50 : decode cX6_judge 50 = .ok (.getfield 12, 3) := by decide +kernel
theorem dX6_judge_53 : decode cX6_judge 53 = .ok (.getfield 177, 3) := by decide +kernel
theorem dX6_judge_56 : decode cX6_judge 56 = .ok (.sipush 9999, 3) := by decide +kernel
theorem dX6_judge_59 : decode cX6_judge 59 = .ok (.aload_n 0, 1) := by decide +kernel
theorem dX6_judge_60 : decode cX6_judge 60 = .ok (.getfield 56, 3) := by decide +kernel
theorem dX6_judge_63 : decode cX6_judge 63 = .ok (.iload_n 1, 1) := by decide +kernel
theorem dX6_judge_64 : decode cX6_judge 64 = .ok (.aaload, 1) := by decide +kernel
theorem dX6_judge_65 : decode cX6_judge 65 = .ok (.getfield 320, 3) := by decide +kernel
theorem dX6_judge_68 : decode cX6_judge 68 = .ok (.isub, 1) := by decide +kernel
theorem dX6_judge_69 : decode cX6_judge 69 = .ok (.if_icmp .le 10, 3) := by decide +kernel
theorem dX6_judge_72 : decode cX6_judge 72 = .ok (.aload_n 0, 1) := by decide +kernel
theorem dX6_judge_73 : decode cX6_judge 73 = .ok (.ldc 169, 2) := by decide +kernel
theorem dX6_judge_75 : decode cX6_judge 75 = .ok (.invokevirtual 72, 3) := by decide +kernel
theorem dX6_judge_78 : decode cX6_judge 78 = .ok (.ireturn, 1) := by decide +kernel
theorem dX6_judge_79 : decode cX6_judge 79 = .ok (.aload_n 0, 1) := by decide +kernel
theorem dX6_judge_80 : decode cX6_judge 80 = .ok (.getfield 23, 3) := by decide +kernel
theorem dX6_judge_83 : decode cX6_judge 83 = .ok (.aload_n 0, 1) := by decide +kernel
theorem dX6_judge_84 : decode cX6_judge 84 = .ok (.getfield 12, 3) := by decide +kernel
theorem dX6_judge_87 : decode cX6_judge 87 = .ok (.invokevirtual 194, 3) := by decide +kernel
theorem dX6_judge_90 : decode cX6_judge 90 = .ok (.iconst 0, 1) := by decide +kernel
theorem dX6_judge_91 : decode cX6_judge 91 = .ok (.istore_n 3, 1) := by decide +kernel
theorem dX6_judge_92 : decode cX6_judge 92 = .ok (.iload_n 3, 1) := by decide +kernel
theorem dX6_judge_93 : decode cX6_judge 93 = .ok (.aload_n 0, 1) := by decide +kernel
theorem dX6_judge_94 : decode cX6_judge 94 = .ok (.getfield 56, 3) := by decide +kernel
theorem dX6_judge_97 : decode cX6_judge 97 = .ok (.iload_n 1, 1) := by decide +kernel
theorem dX6_judge_98 : decode cX6_judge 98 = .ok (.aaload, 1) := by decide +kernel
theorem dX6_judge_99 : decode cX6_judge 99 = .ok (.getfield 320, 3) := by decide +kernel
theorem dX6_judge_102 : decode cX6_judge 102 = .ok (.if_icmp .ge 47, 3) := by decide +kernel
theorem dX6_judge_105 : decode cX6_judge 105 = .ok (.aload_n 0, 1) := by decide +kernel
theorem dX6_judge_106 : decode cX6_judge 106 = .ok (.getfield 23, 3) := by decide +kernel
theorem dX6_judge_109 : decode cX6_judge 109 = .ok (.invokevirtual 240, 3) := by decide +kernel
theorem dX6_judge_112 : decode cX6_judge 112 = .ok (.pop, 1) := by decide +kernel
theorem dX6_judge_113 : decode cX6_judge 113 = .ok (.aload_n 0, 1) := by decide +kernel
theorem dX6_judge_114 : decode cX6_judge 114 = .ok (.getfield 23, 3) := by decide +kernel
theorem dX6_judge_117 : decode cX6_judge 117 = .ok (.getfield 120, 3) := by decide +kernel
theorem dX6_judge_120 : decode cX6_judge 120 = .ok (.iload_n 2, 1) := by decide +kernel
theorem dX6_judge_121 : decode cX6_judge 121 = .ok (.aaload, 1) := by decide +kernel
theorem dX6_judge_122 : decode cX6_judge 122 = .ok (.getfield 138, 3) := by decide +kernel
theorem dX6_judge_125 : decode cX6_judge 125 = .ok (.aload_n 0, 1) := by decide +kernel
theorem dX6_judge_126 : decode cX6_judge 126 = .ok (.getfield 56, 3) := by decide +kernel
theorem dX6_judge_129 : decode cX6_judge 129 = .ok (.iload_n 1, 1) := by decide +kernel
theorem dX6_judge_130 : decode cX6_judge 130 = .ok (.aaload, 1) := by decide +kernel
theorem dX6_judge_131 : decode cX6_judge 131 = .ok (.getfield 324, 3) := by decide +kernel
theorem dX6_judge_134 : decode cX6_judge 134 = .ok (.iload_n 3, 1) := by decide +kernel
theorem dX6_judge_135 : decode cX6_judge 135 = .ok (.iaload, 1) := by decide +kernel
theorem dX6_judge_136 : decode cX6_judge 136 = .ok (.if_icmp .eq 7, 3) := by decide +kernel
theorem dX6_judge_139 : decode cX6_judge 139 = .ok (.iconst 1, 1) := by decide +kernel
theorem dX6_judge_140 : decode cX6_judge 140 = .ok (.iload_n 3, 1) := by decide +kernel
theorem dX6_judge_141 : decode cX6_judge 141 = .ok (.iadd, 1) := by decide +kernel
theorem dX6_judge_142 : decode cX6_judge 142 = .ok (.ireturn, 1) := by decide +kernel
theorem dX6_judge_143 : decode cX6_judge 143 = .ok (.iinc 3 1, 3) := by decide +kernel
theorem dX6_judge_146 : decode cX6_judge 146 = .ok (.goto (-54), 3) := by decide +kernel
theorem dX6_judge_149 : decode cX6_judge 149 = .ok (.iconst 0, 1) := by decide +kernel
theorem dX6_judge_150 : decode cX6_judge 150 = .ok (.ireturn, 1) := by decide +kernel
theorem dX6_image_0 : decode cX6_image 0 = .ok (.aload_n 0, 1) := by decide +kernel
theorem dX6_image_1 : decode cX6_image 1 = .ok (.getfield 16, 3) := by decide +kernel
theorem dX6_image_4 : decode cX6_image 4 = .ok (.aload_n 0, 1) := by decide +kernel
theorem dX6_image_5 : decode cX6_image 5 = .ok (.getfield 12, 3) := by decide +kernel
theorem dX6_image_8 : decode cX6_image 8 = .ok (.invokevirtual 194, 3) := by decide +kernel
theorem dX6_image_11 : decode cX6_image 11 = .ok (.aload_n 0, 1) := by decide +kernel
theorem dX6_image_12 : decode cX6_image 12 = .ok (.iconst 1, 1) := by decide +kernel
theorem dX6_image_13 : decode cX6_image 13 = .ok (.putfield 19, 3) := by decide +kernel
theorem dX6_image_16 : decode cX6_image 16 = .ok (.iconst 1, 1) := by decide +kernel
theorem dX6_image_17 : decode cX6_image 17 = .ok (.ireturn, 1) := by decide +kernel
theorem dX6_undo_0 : decode cX6_undo 0 = .ok (.aload_n 0, 1) := by decide +kernel
theorem dX6_undo_1 : decode cX6_undo 1 = .ok (.getfield 19, 3) := by decide +kernel
theorem dX6_undo_4 : decode cX6_undo 4 = .ok (.ifCond .ne 10, 3) := by decide +kernel
theorem dX6_undo_7 : decode cX6_undo 7 = .ok (.aload_n 0, 1) := by decide +kernel
theorem dX6_undo_8 : decode cX6_undo 8 = .ok (.ldc 207, 2) := by decide +kernel
theorem dX6_undo_10 : decode cX6_undo 10 = .ok (.invokevirtual 72, 3) := by decide +kernel
theorem dX6_undo_13 : decode cX6_undo 13 = .ok (.ireturn, 1) := by decide +kernel
theorem dX6_undo_14 : decode cX6_undo 14 = .ok (.aload_n 0, 1) := by decide +kernel
theorem dX6_undo_15 : decode cX6_undo 15 = .ok (.getfield 12, 3) := by decide +kernel
theorem dX6_undo_18 : decode cX6_undo 18 = .ok (.aload_n 0, 1) := by decide +kernel
theorem dX6_undo_19 : decode cX6_undo 19 = .ok (.getfield 16, 3) := by decide +kernel
theorem dX6_undo_22 : decode cX6_undo 22 = .ok (.invokevirtual 194, 3) := by decide +kernel
theorem dX6_undo_25 : decode cX6_undo 25 = .ok (.aload_n 0, 1) := by decide +kernel
theorem dX6_undo_26 : decode cX6_undo 26 = .ok (.getfield 12, 3) := by decide +kernel
theorem dX6_undo_29 : decode cX6_undo 29 = .ok (.getfield 177, 3) := by decide +kernel
theorem dX6_undo_32 : decode cX6_undo 32 = .ok (.ireturn, 1) := by decide +kernel
theorem dX6_tear_0 : decode cX6_tear 0 = .ok (.aload_n 0, 1) := by decide +kernel
theorem dX6_tear_1 : decode cX6_tear 1 = .ok (.getfield 19, 3) := by decide +kernel
theorem dX6_tear_4 : decode cX6_tear 4 = .ok (.ifCond .eq 7, 3) := by decide +kernel
theorem dX6_tear_7 : decode cX6_tear 7 = .ok (.iconst 1, 1) := by decide +kernel
theorem dX6_tear_8 : decode cX6_tear 8 = .ok (.goto 4, 3) := by decide +kernel
theorem dX6_tear_11 : decode cX6_tear 11 = .ok (.iconst 0, 1) := by decide +kernel
theorem dX6_tear_12 : decode cX6_tear 12 = .ok (.istore_n 1, 1) := by decide +kernel
theorem dX6_tear_13 : decode cX6_tear 13 = .ok (.aload_n 0, 1) := by decide +kernel
theorem dX6_tear_14 : decode cX6_tear 14 = .ok (.iconst 0, 1) := by decide +kernel
theorem dX6_tear_15 : decode cX6_tear 15 = .ok (.putfield 19, 3) := by decide +kernel
theorem dX6_tear_18 : decode cX6_tear 18 = .ok (.iload_n 1, 1) := by decide +kernel
theorem dX6_tear_19 : decode cX6_tear 19 = .ok (.ireturn, 1) := by decide +kernel
theorem dX6_count_0 : decode cX6_count 0 = .ok (.iload_n 1, 1) := by decide +kernel
theorem dX6_count_1 : decode cX6_count 1 = .ok (.tableswitch 111 0 7 #[47, 55, 63, 71, 79, 87, 95, 103], 47) := by decide +kernel
theorem dX6_count_48 : decode cX6_count 48 = .ok (.aload_n 0, 1) := by decide +kernel
theorem dX6_count_49 : decode cX6_count 49 = .ok (.getfield 12, 3) := by decide +kernel
theorem dX6_count_52 : decode cX6_count 52 = .ok (.getfield 177, 3) := by decide +kernel
theorem dX6_count_55 : decode cX6_count 55 = .ok (.ireturn, 1) := by decide +kernel
theorem dX6_count_56 : decode cX6_count 56 = .ok (.aload_n 0, 1) := by decide +kernel
theorem dX6_count_57 : decode cX6_count 57 = .ok (.getfield 12, 3) := by decide +kernel
theorem dX6_count_60 : decode cX6_count 60 = .ok (.getfield 114, 3) := by decide +kernel
theorem dX6_count_63 : decode cX6_count 63 = .ok (.ireturn, 1) := by decide +kernel
theorem dX6_count_64 : decode cX6_count 64 = .ok (.aload_n 0, 1) := by decide +kernel
theorem dX6_count_65 : decode cX6_count 65 = .ok (.getfield 12, 3) := by decide +kernel
theorem dX6_count_68 : decode cX6_count 68 = .ok (.invokevirtual 201, 3) := by decide +kernel
theorem dX6_count_71 : decode cX6_count 71 = .ok (.ireturn, 1) := by decide +kernel
theorem dX6_count_72 : decode cX6_count 72 = .ok (.aload_n 0, 1) := by decide +kernel
theorem dX6_count_73 : decode cX6_count 73 = .ok (.getfield 12, 3) := by decide +kernel
theorem dX6_count_76 : decode cX6_count 76 = .ok (.invokevirtual 347, 3) := by decide +kernel
theorem dX6_count_79 : decode cX6_count 79 = .ok (.ireturn, 1) := by decide +kernel
theorem dX6_count_80 : decode cX6_count 80 = .ok (.aload_n 0, 1) := by decide +kernel
theorem dX6_count_81 : decode cX6_count 81 = .ok (.getfield 12, 3) := by decide +kernel
theorem dX6_count_84 : decode cX6_count 84 = .ok (.invokevirtual 350, 3) := by decide +kernel
theorem dX6_count_87 : decode cX6_count 87 = .ok (.ireturn, 1) := by decide +kernel
theorem dX6_count_88 : decode cX6_count 88 = .ok (.aload_n 0, 1) := by decide +kernel
theorem dX6_count_89 : decode cX6_count 89 = .ok (.getfield 50, 3) := by decide +kernel
theorem dX6_count_92 : decode cX6_count 92 = .ok (.getfield 297, 3) := by decide +kernel
theorem dX6_count_95 : decode cX6_count 95 = .ok (.ireturn, 1) := by decide +kernel
theorem dX6_count_96 : decode cX6_count 96 = .ok (.aload_n 0, 1) := by decide +kernel
theorem dX6_count_97 : decode cX6_count 97 = .ok (.getfield 12, 3) := by decide +kernel
theorem dX6_count_100 : decode cX6_count 100 = .ok (.getfield 294, 3) := by decide +kernel
theorem dX6_count_103 : decode cX6_count 103 = .ok (.ireturn, 1) := by decide +kernel
theorem dX6_count_104 : decode cX6_count 104 = .ok (.aload_n 0, 1) := by decide +kernel
theorem dX6_count_105 : decode cX6_count 105 = .ok (.getfield 12, 3) := by decide +kernel
theorem dX6_count_108 : decode cX6_count 108 = .ok (.invokevirtual 353, 3) := by decide +kernel
theorem dX6_count_111 : decode cX6_count 111 = .ok (.ireturn, 1) := by decide +kernel
theorem dX6_count_112 : decode cX6_count 112 = .ok (.aload_n 0, 1) := by decide +kernel
theorem dX6_count_113 : decode cX6_count 113 = .ok (.ldc 71, 2) := by decide +kernel
theorem dX6_count_115 : decode cX6_count 115 = .ok (.invokevirtual 72, 3) := by decide +kernel
theorem dX6_count_118 : decode cX6_count 118 = .ok (.ireturn, 1) := by decide +kernel
theorem dX6_status_0 : decode cX6_status 0 = .ok (.iload_n 1, 1) := by decide +kernel
theorem dX6_status_1 : decode cX6_status 1 = .ok (.iconst (-1), 1) := by decide +kernel
theorem dX6_status_2 : decode cX6_status 2 = .ok (.bipush 6, 2) := by decide +kernel
theorem dX6_status_4 : decode cX6_status 4 = .ok (.invokestatic 79, 3) := by decide +kernel
theorem dX6_status_7 : decode cX6_status 7 = .ok (.ifCond .ne 10, 3) := by decide +kernel
theorem dX6_status_10 : decode cX6_status 10 = .ok (.aload_n 0, 1) := by decide +kernel
theorem dX6_status_11 : decode cX6_status 11 = .ok (.ldc 71, 2) := by decide +kernel
theorem dX6_status_13 : decode cX6_status 13 = .ok (.invokevirtual 72, 3) := by decide +kernel
theorem dX6_status_16 : decode cX6_status 16 = .ok (.ireturn, 1) := by decide +kernel
theorem dX6_status_17 : decode cX6_status 17 = .ok (.iload_n 1, 1) := by decide +kernel
theorem dX6_status_18 : decode cX6_status 18 = .ok (.ifCond .lt 10, 3) := by decide +kernel
theorem dX6_status_21 : decode cX6_status 21 = .ok (.aload_n 0, 1) := by decide +kernel
theorem dX6_status_22 : decode cX6_status 22 = .ok (.getfield 60, 3) := by decide +kernel
theorem dX6_status_25 : decode cX6_status 25 = .ok (.iload_n 1, 1) := by decide +kernel
theorem dX6_status_26 : decode cX6_status 26 = .ok (.iaload, 1) := by decide +kernel
theorem dX6_status_27 : decode cX6_status 27 = .ok (.ireturn, 1) := by decide +kernel
theorem dX6_status_28 : decode cX6_status 28 = .ok (.iconst 0, 1) := by decide +kernel
theorem dX6_status_29 : decode cX6_status 29 = .ok (.istore_n 2, 1) := by decide +kernel
theorem dX6_status_30 : decode cX6_status 30 = .ok (.iconst 0, 1) := by decide +kernel
theorem dX6_status_31 : decode cX6_status 31 = .ok (.istore_n 3, 1) := by decide +kernel
theorem dX6_status_32 : decode cX6_status 32 = .ok (.iload_n 3, 1) := by decide +kernel
theorem dX6_status_33 : decode cX6_status 33 = .ok (.bipush 7, 2) := by decide +kernel
theorem dX6_status_35 : decode cX6_status 35 = .ok (.if_icmp .ge 18, 3) := by decide +kernel
theorem dX6_status_38 : decode cX6_status 38 = .ok (.iload_n 2, 1) := by decide +kernel
theorem dX6_status_39 : decode cX6_status 39 = .ok (.aload_n 0, 1) := by decide +kernel
theorem dX6_status_40 : decode cX6_status 40 = .ok (.getfield 60, 3) := by decide +kernel
theorem dX6_status_43 : decode cX6_status 43 = .ok (.iload_n 3, 1) := by decide +kernel
theorem dX6_status_44 : decode cX6_status 44 = .ok (.iaload, 1) := by decide +kernel
theorem dX6_status_45 : decode cX6_status 45 = .ok (.iadd, 1) := by decide +kernel
theorem dX6_status_46 : decode cX6_status 46 = .ok (.istore_n 2, 1) := by decide +kernel
theorem dX6_status_47 : decode cX6_status 47 = .ok (.iinc 3 1, 3) := by decide +kernel
theorem dX6_status_50 : decode cX6_status 50 = .ok (.goto (-18), 3) := by decide +kernel
theorem dX6_status_53 : decode cX6_status 53 = .ok (.iload_n 2, 1) := by decide +kernel
theorem dX6_status_54 : decode cX6_status 54 = .ok (.ireturn, 1) := by decide +kernel
theorem dX6_refuse_0 : decode cX6_refuse 0 = .ok (.ldc 71, 2) := by decide +kernel
theorem dX6_refuse_2 : decode cX6_refuse 2 = .ok (.iload_n 1, 1) := by decide +kernel
theorem dX6_refuse_3 : decode cX6_refuse 3 = .ok (.isub, 1) := by decide +kernel
theorem dX6_refuse_4 : decode cX6_refuse 4 = .ok (.istore_n 2, 1) := by decide +kernel
theorem dX6_refuse_5 : decode cX6_refuse 5 = .ok (.iload_n 2, 1) := by decide +kernel
theorem dX6_refuse_6 : decode cX6_refuse 6 = .ok (.iconst 0, 1) := by decide +kernel
theorem dX6_refuse_7 : decode cX6_refuse 7 = .ok (.bipush 6, 2) := by decide +kernel
theorem dX6_refuse_9 : decode cX6_refuse 9 = .ok (.invokestatic 79, 3) := by decide +kernel
theorem dX6_refuse_12 : decode cX6_refuse 12 = .ok (.ifCond .eq 13, 3) := by decide +kernel
theorem dX6_refuse_15 : decode cX6_refuse 15 = .ok (.aload_n 0, 1) := by decide +kernel
theorem dX6_refuse_16 : decode cX6_refuse 16 = .ok (.getfield 60, 3) := by decide +kernel
theorem dX6_refuse_19 : decode cX6_refuse 19 = .ok (.iload_n 2, 1) := by decide +kernel
theorem dX6_refuse_20 : decode cX6_refuse 20 = .ok (.dup2, 1) := by decide +kernel
theorem dX6_refuse_21 : decode cX6_refuse 21 = .ok (.iaload, 1) := by decide +kernel
theorem dX6_refuse_22 : decode cX6_refuse 22 = .ok (.iconst 1, 1) := by decide +kernel
theorem dX6_refuse_23 : decode cX6_refuse 23 = .ok (.iadd, 1) := by decide +kernel
theorem dX6_refuse_24 : decode cX6_refuse 24 = .ok (.iastore, 1) := by decide +kernel
theorem dX6_refuse_25 : decode cX6_refuse 25 = .ok (.iload_n 1, 1) := by decide +kernel
theorem dX6_refuse_26 : decode cX6_refuse 26 = .ok (.ireturn, 1) := by decide +kernel
theorem dX6_againstRoll_0 : decode cX6_againstRoll 0 = .ok (.aload_n 0, 1) := by decide +kernel
theorem dX6_againstRoll_1 : decode cX6_againstRoll 1 = .ok (.iload_n 1, 1) := by decide +kernel
theorem dX6_againstRoll_2 : decode cX6_againstRoll 2 = .ok (.invokevirtual 117, 3) := by decide +kernel
theorem dX6_againstRoll_5 : decode cX6_againstRoll 5 = .ok (.ifCond .ne 6, 3) := by decide +kernel
theorem dX6_againstRoll_8 : decode cX6_againstRoll 8 = .ok (.ldc 71, 2) := by decide +kernel
theorem dX6_againstRoll_10 : decode cX6_againstRoll 10 = .ok (.ireturn, 1) := by decide +kernel
theorem dX6_againstRoll_11 : decode cX6_againstRoll 11 = .ok (.aload_n 0, 1) := by decide +kernel
theorem dX6_againstRoll_12 : decode cX6_againstRoll 12 = .ok (.getfield 12, 3) := by decide +kernel
theorem dX6_againstRoll_15 : decode cX6_againstRoll 15 = .ok (.getfield 120, 3) := by decide +kernel
theorem dX6_againstRoll_18 : decode cX6_againstRoll 18 = .ok (.iload_n 1, 1) := by decide +kernel
theorem dX6_againstRoll_19 : decode cX6_againstRoll 19 = .ok (.aaload, 1) := by decide +kernel
theorem dX6_againstRoll_20 : decode cX6_againstRoll 20 = .ok (.astore_n 2, 1) := by decide +kernel
theorem dX6_againstRoll_21 : decode cX6_againstRoll 21 = .ok (.aload_n 2, 1) := by decide +kernel
theorem dX6_againstRoll_22 : decode cX6_againstRoll 22 = .ok (.invokevirtual 356, 3) := by decide +kernel
theorem dX6_againstRoll_25 : decode cX6_againstRoll 25 = .ok (.ifCond .eq 19, 3) := by decide +kernel
theorem dX6_againstRoll_28 : decode cX6_againstRoll 28 = .ok (.aload_n 2, 1) := by decide +kernel
theorem dX6_againstRoll_29 : decode cX6_againstRoll 29 = .ok (.getfield 138, 3) := by decide +kernel
theorem dX6_againstRoll_32 : decode cX6_againstRoll 32 = .ok (.bipush 30, 2) := by decide +kernel
theorem dX6_againstRoll_34 : decode cX6_againstRoll 34 = .ok (.if_icmp .eq 10, 3) := by decide +kernel
theorem dX6_againstRoll_37 : decode cX6_againstRoll 37 = .ok (.aload_n 0, 1) := by decide +kernel
theorem dX6_againstRoll_38 : decode cX6_againstRoll 38 = .ok (.invokevirtual 250, 3) := by decide +kernel
theorem dX6_againstRoll_41 : decode cX6_againstRoll 41 = .ok (.ifCond .eq 8, 3) := by decide +kernel
theorem dX6_againstRoll_44 : decode cX6_againstRoll 44 = .ok (.ldc 169, 2) := by decide +kernel
theorem dX6_againstRoll_46 : decode cX6_againstRoll 46 = .ok (.goto 4, 3) := by decide +kernel
theorem dX6_againstRoll_49 : decode cX6_againstRoll 49 = .ok (.iconst 0, 1) := by decide +kernel
theorem dX6_againstRoll_50 : decode cX6_againstRoll 50 = .ok (.ireturn, 1) := by decide +kernel
theorem dX6_rollWithGround_0 : decode cX6_rollWithGround 0 = .ok (.aload_n 0, 1) := by decide +kernel
theorem dX6_rollWithGround_1 : decode cX6_rollWithGround 1 = .ok (.getfield 12, 3) := by decide +kernel
theorem dX6_rollWithGround_4 : decode cX6_rollWithGround 4 = .ok (.getfield 83, 3) := by decide +kernel
theorem dX6_rollWithGround_7 : decode cX6_rollWithGround 7 = .ok (.iload_n 2, 1) := by decide +kernel
theorem dX6_rollWithGround_8 : decode cX6_rollWithGround 8 = .ok (.iaload, 1) := by decide +kernel
theorem dX6_rollWithGround_9 : decode cX6_rollWithGround 9 = .ok (.istore 4, 2) := by decide +kernel
theorem dX6_rollWithGround_11 : decode cX6_rollWithGround 11 = .ok (.aload_n 0, 1) := by decide +kernel
theorem dX6_rollWithGround_12 : decode cX6_rollWithGround 12 = .ok (.getfield 12, 3) := by decide +kernel
theorem dX6_rollWithGround_15 : decode cX6_rollWithGround 15 = .ok (.getfield 83, 3) := by decide +kernel
theorem dX6_rollWithGround_18 : decode cX6_rollWithGround 18 = .ok (.iload_n 2, 1) := by decide +kernel
theorem dX6_rollWithGround_19 : decode cX6_rollWithGround 19 = .ok (.iload_n 3, 1) := by decide +kernel
theorem dX6_rollWithGround_20 : decode cX6_rollWithGround 20 = .ok (.iastore, 1) := by decide +kernel
theorem dX6_rollWithGround_21 : decode cX6_rollWithGround 21 = .ok (.aload_n 0, 1) := by decide +kernel
theorem dX6_rollWithGround_22 : decode cX6_rollWithGround 22 = .ok (.getfield 32, 3) := by decide +kernel
theorem dX6_rollWithGround_25 : decode cX6_rollWithGround 25 = .ok (.aload_n 0, 1) := by decide +kernel
theorem dX6_rollWithGround_26 : decode cX6_rollWithGround 26 = .ok (.getfield 12, 3) := by decide +kernel
theorem dX6_rollWithGround_29 : decode cX6_rollWithGround 29 = .ok (.aload_n 0, 1) := by decide +kernel
theorem dX6_rollWithGround_30 : decode cX6_rollWithGround 30 = .ok (.getfield 12, 3) := by decide +kernel
theorem dX6_rollWithGround_33 : decode cX6_rollWithGround 33 = .ok (.getfield 120, 3) := by decide +kernel
theorem dX6_rollWithGround_36 : decode cX6_rollWithGround 36 = .ok (.iload_n 1, 1) := by decide +kernel
theorem dX6_rollWithGround_37 : decode cX6_rollWithGround 37 = .ok (.aaload, 1) := by decide +kernel
theorem dX6_rollWithGround_38 : decode cX6_rollWithGround 38 = .ok (.invokevirtual 211, 3) := by decide +kernel
theorem dX6_rollWithGround_41 : decode cX6_rollWithGround 41 = .ok (.aload_n 0, 1) := by decide +kernel
theorem dX6_rollWithGround_42 : decode cX6_rollWithGround 42 = .ok (.getfield 12, 3) := by decide +kernel
theorem dX6_rollWithGround_45 : decode cX6_rollWithGround 45 = .ok (.getfield 83, 3) := by decide +kernel
theorem dX6_rollWithGround_48 : decode cX6_rollWithGround 48 = .ok (.iload_n 2, 1) := by decide +kernel
theorem dX6_rollWithGround_49 : decode cX6_rollWithGround 49 = .ok (.iload 4, 2) := by decide +kernel
theorem dX6_rollWithGround_51 : decode cX6_rollWithGround 51 = .ok (.iastore, 1) := by decide +kernel
theorem dX6_rollWithGround_52 : decode cX6_rollWithGround 52 = .ok (.return_, 1) := by decide +kernel
theorem dX6_isTooLateToRoll_0 : decode cX6_isTooLateToRoll 0 = .ok (.aload_n 0, 1) := by decide +kernel
theorem dX6_isTooLateToRoll_1 : decode cX6_isTooLateToRoll 1 = .ok (.getfield 12, 3) := by decide +kernel
theorem dX6_isTooLateToRoll_4 : decode cX6_isTooLateToRoll 4 = .ok (.getfield 177, 3) := by decide +kernel
theorem dX6_isTooLateToRoll_7 : decode cX6_isTooLateToRoll 7 = .ok (.sipush 9799, 3) := by decide +kernel
theorem dX6_isTooLateToRoll_10 : decode cX6_isTooLateToRoll 10 = .ok (.if_icmp .le 7, 3) := by decide +kernel
theorem dX6_isTooLateToRoll_13 : decode cX6_isTooLateToRoll 13 = .ok (.iconst 1, 1) := by decide +kernel
theorem dX6_isTooLateToRoll_14 : decode cX6_isTooLateToRoll 14 = .ok (.goto 4, 3) := by decide +kernel
theorem dX6_isTooLateToRoll_17 : decode cX6_isTooLateToRoll 17 = .ok (.iconst 0, 1) := by decide +kernel
theorem dX6_isTooLateToRoll_18 : decode cX6_isTooLateToRoll 18 = .ok (.ireturn, 1) := by decide +kernel
theorem dX6_isTooLateToWait_0 : decode cX6_isTooLateToWait 0 = .ok (.aload_n 0, 1) := by decide +kernel
theorem dX6_isTooLateToWait_1 : decode cX6_isTooLateToWait 1 = .ok (.getfield 12, 3) := by decide +kernel
theorem dX6_isTooLateToWait_4 : decode cX6_isTooLateToWait 4 = .ok (.getfield 177, 3) := by decide +kernel
theorem dX6_isTooLateToWait_7 : decode cX6_isTooLateToWait 7 = .ok (.sipush 9740, 3) := by decide +kernel
theorem dX6_isTooLateToWait_10 : decode cX6_isTooLateToWait 10 = .ok (.if_icmp .le 7, 3) := by decide +kernel
theorem dX6_isTooLateToWait_13 : decode cX6_isTooLateToWait 13 = .ok (.iconst 1, 1) := by decide +kernel
theorem dX6_isTooLateToWait_14 : decode cX6_isTooLateToWait 14 = .ok (.goto 4, 3) := by decide +kernel
theorem dX6_isTooLateToWait_17 : decode cX6_isTooLateToWait 17 = .ok (.iconst 0, 1) := by decide +kernel
theorem dX6_isTooLateToWait_18 : decode cX6_isTooLateToWait 18 = .ok (.ireturn, 1) := by decide +kernel
theorem dX6_standTogether_0 : decode cX6_standTogether 0 = .ok (.aload_n 0, 1) := by decide +kernel
theorem dX6_standTogether_1 : decode cX6_standTogether 1 = .ok (.invokevirtual 166, 3) := by decide +kernel
theorem dX6_standTogether_4 : decode cX6_standTogether 4 = .ok (.ifCond .eq 25, 3) := by decide +kernel
theorem dX6_standTogether_7 : decode cX6_standTogether 7 = .ok (.aload_n 1, 1) := by decide +kernel
theorem dX6_standTogether_8 : decode cX6_standTogether 8 = .ok (.invokevirtual 166, 3) := by decide +kernel
theorem dX6_standTogether_11 : decode cX6_standTogether 11 = .ok (.ifCond .eq 18, 3) := by decide +kernel
theorem dX6_standTogether_14 : decode cX6_standTogether 14 = .ok (.aload_n 0, 1) := by decide +kernel
theorem dX6_standTogether_15 : decode cX6_standTogether 15 = .ok (.getfield 138, 3) := by decide +kernel
theorem dX6_standTogether_18 : decode cX6_standTogether 18 = .ok (.aload_n 1, 1) := by decide +kernel
theorem dX6_standTogether_19 : decode cX6_standTogether 19 = .ok (.getfield 138, 3) := by decide +kernel
theorem dX6_standTogether_22 : decode cX6_standTogether 22 = .ok (.if_icmp .ne 7, 3) := by decide +kernel
theorem dX6_standTogether_25 : decode cX6_standTogether 25 = .ok (.iconst 1, 1) := by decide +kernel
theorem dX6_standTogether_26 : decode cX6_standTogether 26 = .ok (.goto 4, 3) := by decide +kernel
theorem dX6_standTogether_29 : decode cX6_standTogether 29 = .ok (.iconst 0, 1) := by decide +kernel
theorem dX6_standTogether_30 : decode cX6_standTogether 30 = .ok (.ireturn, 1) := by decide +kernel
theorem dX6_lineUpByNumber_0 : decode cX6_lineUpByNumber 0 = .ok (.aload_n 0, 1) := by decide +kernel
theorem dX6_lineUpByNumber_1 : decode cX6_lineUpByNumber 1 = .ok (.getfield 12, 3) := by decide +kernel
theorem dX6_lineUpByNumber_4 : decode cX6_lineUpByNumber 4 = .ok (.invokevirtual 198, 3) := by decide +kernel
theorem dX6_lineUpByNumber_7 : decode cX6_lineUpByNumber 7 = .ok (.istore_n 1, 1) := by decide +kernel
theorem dX6_lineUpByNumber_8 : decode cX6_lineUpByNumber 8 = .ok (.iconst 0, 1) := by decide +kernel
theorem dX6_lineUpByNumber_9 : decode cX6_lineUpByNumber 9 = .ok (.istore_n 2, 1) := by decide +kernel
theorem dX6_lineUpByNumber_10 : decode cX6_lineUpByNumber 10 = .ok (.iconst 0, 1) := by decide +kernel
theorem dX6_lineUpByNumber_11 : decode cX6_lineUpByNumber 11 = .ok (.istore_n 3, 1) := by decide +kernel
theorem dX6_lineUpByNumber_12 : decode cX6_lineUpByNumber 12 = .ok (.iload_n 3, 1) := by decide +kernel
theorem dX6_lineUpByNumber_13 : decode cX6_lineUpByNumber 13 = .ok (.aload_n 0, 1) := by decide +kernel
theorem dX6_lineUpByNumber_14 : decode cX6_lineUpByNumber 14 = .ok (.getfield 12, 3) := by decide +kernel
theorem dX6_lineUpByNumber_17 : decode cX6_lineUpByNumber 17 = .ok (.getfield 114, 3) := by decide +kernel
theorem dX6_lineUpByNumber_20 : decode cX6_lineUpByNumber 20 = .ok (.if_icmp .ge 27, 3) := by decide +kernel
theorem dX6_lineUpByNumber_23 : decode cX6_lineUpByNumber 23 = .ok (.iload_n 1, 1) := by decide +kernel
theorem dX6_lineUpByNumber_24 : decode cX6_lineUpByNumber 24 = .ok (.iload_n 3, 1) := by decide +kernel
theorem dX6_lineUpByNumber_25 : decode cX6_lineUpByNumber 25 = .ok (.invokestatic 253, 3) := by decide +kernel
theorem dX6_lineUpByNumber_28 : decode cX6_lineUpByNumber 28 = .ok (.ifCond .eq 13, 3) := by decide +kernel
theorem dX6_lineUpByNumber_31 : decode cX6_lineUpByNumber 31 = .ok (.aload_n 0, 1) := by decide +kernel
theorem dX6_lineUpByNumber_32 : decode cX6_lineUpByNumber 32 = .ok (.getfield 43, 3) := by decide +kernel
theorem dX6_lineUpByNumber_35 : decode cX6_lineUpByNumber 35 = .ok (.iload_n 2, 1) := by decide +kernel
theorem dX6_lineUpByNumber_36 : decode cX6_lineUpByNumber 36 = .ok (.iload_n 3, 1) := by decide +kernel
theorem dX6_lineUpByNumber_37 : decode cX6_lineUpByNumber 37 = .ok (.iastore, 1) := by decide +kernel
theorem dX6_lineUpByNumber_38 : decode cX6_lineUpByNumber 38 = .ok (.iinc 2 1, 3) := by decide +kernel
theorem dX6_lineUpByNumber_41 : decode cX6_lineUpByNumber 41 = .ok (.iinc 3 1, 3) := by decide +kernel
theorem dX6_lineUpByNumber_44 : decode cX6_lineUpByNumber 44 = .ok (.goto (-32), 3) := by decide +kernel
theorem dX6_lineUpByNumber_47 : decode cX6_lineUpByNumber 47 = .ok (.iload_n 2, 1) := by decide +kernel
theorem dX6_lineUpByNumber_48 : decode cX6_lineUpByNumber 48 = .ok (.ireturn, 1) := by decide +kernel
theorem dX6_lineUpByWeight_0 : decode cX6_lineUpByWeight 0 = .ok (.aload_n 0, 1) := by decide +kernel
theorem dX6_lineUpByWeight_1 : decode cX6_lineUpByWeight 1 = .ok (.invokevirtual 275, 3) := by decide +kernel
theorem dX6_lineUpByWeight_4 : decode cX6_lineUpByWeight 4 = .ok (.istore_n 1, 1) := by decide +kernel
theorem dX6_lineUpByWeight_5 : decode cX6_lineUpByWeight 5 = .ok (.iconst 1, 1) := by decide +kernel
theorem dX6_lineUpByWeight_6 : decode cX6_lineUpByWeight 6 = .ok (.istore_n 2, 1) := by decide +kernel
theorem dX6_lineUpByWeight_7 : decode cX6_lineUpByWeight 7 = .ok (.iload_n 2, 1) := by decide +kernel
theorem dX6_lineUpByWeight_8 : decode cX6_lineUpByWeight 8 = .ok (.iload_n 1, 1) := by decide +kernel
theorem dX6_lineUpByWeight_9 : decode cX6_lineUpByWeight 9 = .ok (.if_icmp .ge 89, 3) := by decide +kernel
theorem dX6_lineUpByWeight_12 : decode cX6_lineUpByWeight 12 = .ok (.aload_n 0, 1) := by decide +kernel
theorem dX6_lineUpByWeight_13 : decode cX6_lineUpByWeight 13 = .ok (.getfield 43, 3) := by decide +kernel
theorem dX6_lineUpByWeight_16 : decode cX6_lineUpByWeight 16 = .ok (.iload_n 2, 1) := by decide +kernel
theorem dX6_lineUpByWeight_17 : decode cX6_lineUpByWeight 17 = .ok (.iaload, 1) := by decide +kernel
theorem dX6_lineUpByWeight_18 : decode cX6_lineUpByWeight 18 = .ok (.istore_n 3, 1) := by decide +kernel
theorem dX6_lineUpByWeight_19 : decode cX6_lineUpByWeight 19 = .ok (.iload_n 2, 1) := by decide +kernel
theorem dX6_lineUpByWeight_20 : decode cX6_lineUpByWeight 20 = .ok (.istore 4, 2) := by decide +kernel
theorem dX6_lineUpByWeight_22 : decode cX6_lineUpByWeight 22 = .ok (.iload 4, 2) := by decide +kernel
theorem dX6_lineUpByWeight_24 : decode cX6_lineUpByWeight 24 = .ok (.ifCond .le 60, 3) := by decide +kernel
theorem dX6_lineUpByWeight_27 : decode cX6_lineUpByWeight 27 = .ok (.aload_n 0, 1) := by decide +kernel
theorem dX6_lineUpByWeight_28 : decode cX6_lineUpByWeight 28 = .ok (.getfield 12, 3) := by decide +kernel
theorem dX6_lineUpByWeight_31 : decode cX6_lineUpByWeight 31 = .ok (.getfield 120, 3) := by decide +kernel
theorem dX6_lineUpByWeight_34 : decode cX6_lineUpByWeight 34 = .ok (.aload_n 0, 1) := by decide +kernel
theorem dX6_lineUpByWeight_35 : decode cX6_lineUpByWeight 35 = .ok (.getfield 43, 3) := by decide +kernel
theorem dX6_lineUpByWeight_38 : decode cX6_lineUpByWeight 38 = .ok (.iload 4, 2) := by decide +kernel
theorem dX6_lineUpByWeight_40 : decode cX6_lineUpByWeight 40 = .ok (.iconst 1, 1) := by decide +kernel
theorem dX6_lineUpByWeight_41 : decode cX6_lineUpByWeight 41 = .ok (.isub, 1) := by decide +kernel
theorem dX6_lineUpByWeight_42 : decode cX6_lineUpByWeight 42 = .ok (.iaload, 1) := by decide +kernel
theorem dX6_lineUpByWeight_43 : decode cX6_lineUpByWeight 43 = .ok (.aaload, 1) := by decide +kernel
theorem dX6_lineUpByWeight_44 : decode cX6_lineUpByWeight 44 = .ok (.getfield 129, 3) := by decide +kernel
theorem dX6_lineUpByWeight_47 : decode cX6_lineUpByWeight 47 = .ok (.aload_n 0, 1) := by decide +kernel
theorem dX6_lineUpByWeight_48 : decode cX6_lineUpByWeight 48 = .ok (.getfield 12, 3) := by decide +kernel
theorem dX6_lineUpByWeight_51 : decode cX6_lineUpByWeight 51 = .ok (.getfield 120, 3) := by decide +kernel
theorem dX6_lineUpByWeight_54 : decode cX6_lineUpByWeight 54 = .ok (.iload_n 3, 1) := by decide +kernel
theorem dX6_lineUpByWeight_55 : decode cX6_lineUpByWeight 55 = .ok (.aaload, 1) := by decide +kernel
theorem dX6_lineUpByWeight_56 : decode cX6_lineUpByWeight 56 = .ok (.getfield 129, 3) := by decide +kernel
theorem dX6_lineUpByWeight_59 : decode cX6_lineUpByWeight 59 = .ok (.if_icmp .le 25, 3) := by decide +kernel
theorem dX6_lineUpByWeight_62 : decode cX6_lineUpByWeight 62 = .ok (.aload_n 0, 1) := by decide +kernel
theorem dX6_lineUpByWeight_63 : decode cX6_lineUpByWeight 63 = .ok (.getfield 43, 3) := by decide +kernel
theorem dX6_lineUpByWeight_66 : decode cX6_lineUpByWeight 66 = .ok (.iload 4, 2) := by decide +kernel
theorem dX6_lineUpByWeight_68 : decode cX6_lineUpByWeight 68 = .ok (.aload_n 0, 1) := by decide +kernel
theorem dX6_lineUpByWeight_69 : decode cX6_lineUpByWeight 69 = .ok (.getfield 43, 3) := by decide +kernel
theorem dX6_lineUpByWeight_72 : decode cX6_lineUpByWeight 72 = .ok (.iload 4, 2) := by decide +kernel
theorem dX6_lineUpByWeight_74 : decode cX6_lineUpByWeight 74 = .ok (.iconst 1, 1) := by decide +kernel
theorem dX6_lineUpByWeight_75 : decode cX6_lineUpByWeight 75 = .ok (.isub, 1) := by decide +kernel
theorem dX6_lineUpByWeight_76 : decode cX6_lineUpByWeight 76 = .ok (.iaload, 1) := by decide +kernel
theorem dX6_lineUpByWeight_77 : decode cX6_lineUpByWeight 77 = .ok (.iastore, 1) := by decide +kernel
theorem dX6_lineUpByWeight_78 : decode cX6_lineUpByWeight 78 = .ok (.iinc 4 (-1), 3) := by decide +kernel
theorem dX6_lineUpByWeight_81 : decode cX6_lineUpByWeight 81 = .ok (.goto (-59), 3) := by decide +kernel
theorem dX6_lineUpByWeight_84 : decode cX6_lineUpByWeight 84 = .ok (.aload_n 0, 1) := by decide +kernel
theorem dX6_lineUpByWeight_85 : decode cX6_lineUpByWeight 85 = .ok (.getfield 43, 3) := by decide +kernel
theorem dX6_lineUpByWeight_88 : decode cX6_lineUpByWeight 88 = .ok (.iload 4, 2) := by decide +kernel
theorem dX6_lineUpByWeight_90 : decode cX6_lineUpByWeight 90 = .ok (.iload_n 3, 1) := by decide +kernel
theorem dX6_lineUpByWeight_91 : decode cX6_lineUpByWeight 91 = .ok (.iastore, 1) := by decide +kernel
theorem dX6_lineUpByWeight_92 : decode cX6_lineUpByWeight 92 = .ok (.iinc 2 1, 3) := by decide +kernel
theorem dX6_lineUpByWeight_95 : decode cX6_lineUpByWeight 95 = .ok (.goto (-88), 3) := by decide +kernel
theorem dX6_lineUpByWeight_98 : decode cX6_lineUpByWeight 98 = .ok (.iload_n 1, 1) := by decide +kernel
theorem dX6_lineUpByWeight_99 : decode cX6_lineUpByWeight 99 = .ok (.ireturn, 1) := by decide +kernel
theorem dX6_waitsOfQueue_0 : decode cX6_waitsOfQueue 0 = .ok (.iconst 0, 1) := by decide +kernel
theorem dX6_waitsOfQueue_1 : decode cX6_waitsOfQueue 1 = .ok (.istore_n 2, 1) := by decide +kernel
theorem dX6_waitsOfQueue_2 : decode cX6_waitsOfQueue 2 = .ok (.iconst 0, 1) := by decide +kernel
theorem dX6_waitsOfQueue_3 : decode cX6_waitsOfQueue 3 = .ok (.istore_n 3, 1) := by decide +kernel
theorem dX6_waitsOfQueue_4 : decode cX6_waitsOfQueue 4 = .ok (.iconst 0, 1) := by decide +kernel
theorem dX6_waitsOfQueue_5 : decode cX6_waitsOfQueue 5 = .ok (.istore 4, 2) := by decide +kernel
theorem dX6_waitsOfQueue_7 : decode cX6_waitsOfQueue 7 = .ok (.iload 4, 2) := by decide +kernel
theorem dX6_waitsOfQueue_9 : decode cX6_waitsOfQueue 9 = .ok (.iload_n 1, 1) := by decide +kernel
theorem dX6_waitsOfQueue_10 : decode cX6_waitsOfQueue 10 = .ok (.if_icmp .ge 34, 3) := by decide +kernel
theorem dX6_waitsOfQueue_13 : decode cX6_waitsOfQueue 13 = .ok (.iload_n 2, 1) := by decide +kernel
theorem dX6_waitsOfQueue_14 : decode cX6_waitsOfQueue 14 = .ok (.aload_n 0, 1) := by decide +kernel
theorem dX6_waitsOfQueue_15 : decode cX6_waitsOfQueue 15 = .ok (.getfield 12, 3) := by decide +kernel
theorem dX6_waitsOfQueue_18 : decode cX6_waitsOfQueue 18 = .ok (.getfield 120, 3) := by decide +kernel
theorem dX6_waitsOfQueue_21 : decode cX6_waitsOfQueue 21 = .ok (.aload_n 0, 1) := by decide +kernel
theorem dX6_waitsOfQueue_22 : decode cX6_waitsOfQueue 22 = .ok (.getfield 43, 3) := by decide +kernel
theorem dX6_waitsOfQueue_25 : decode cX6_waitsOfQueue 25 = .ok (.iload 4, 2) := by decide +kernel
theorem dX6_waitsOfQueue_27 : decode cX6_waitsOfQueue 27 = .ok (.iaload, 1) := by decide +kernel
theorem dX6_waitsOfQueue_28 : decode cX6_waitsOfQueue 28 = .ok (.aaload, 1) := by decide +kernel
theorem dX6_waitsOfQueue_29 : decode cX6_waitsOfQueue 29 = .ok (.invokevirtual 284, 3) := by decide +kernel
theorem dX6_waitsOfQueue_32 : decode cX6_waitsOfQueue 32 = .ok (.iadd, 1) := by decide +kernel
theorem dX6_waitsOfQueue_33 : decode cX6_waitsOfQueue 33 = .ok (.istore_n 2, 1) := by decide +kernel
theorem dX6_waitsOfQueue_34 : decode cX6_waitsOfQueue 34 = .ok (.iload_n 3, 1) := by decide +kernel
theorem dX6_waitsOfQueue_35 : decode cX6_waitsOfQueue 35 = .ok (.iload_n 2, 1) := by decide +kernel
theorem dX6_waitsOfQueue_36 : decode cX6_waitsOfQueue 36 = .ok (.iadd, 1) := by decide +kernel
theorem dX6_waitsOfQueue_37 : decode cX6_waitsOfQueue 37 = .ok (.istore_n 3, 1) := by decide +kernel
theorem dX6_waitsOfQueue_38 : decode cX6_waitsOfQueue 38 = .ok (.iinc 4 1, 3) := by decide +kernel
theorem dX6_waitsOfQueue_41 : decode cX6_waitsOfQueue 41 = .ok (.goto (-34), 3) := by decide +kernel
theorem dX6_waitsOfQueue_44 : decode cX6_waitsOfQueue 44 = .ok (.iload_n 3, 1) := by decide +kernel
theorem dX6_waitsOfQueue_45 : decode cX6_waitsOfQueue 45 = .ok (.ireturn, 1) := by decide +kernel
theorem dX6_isThing_0 : decode cX6_isThing 0 = .ok (.iload_n 1, 1) := by decide +kernel
theorem dX6_isThing_1 : decode cX6_isThing 1 = .ok (.iconst 0, 1) := by decide +kernel
theorem dX6_isThing_2 : decode cX6_isThing 2 = .ok (.aload_n 0, 1) := by decide +kernel
theorem dX6_isThing_3 : decode cX6_isThing 3 = .ok (.getfield 12, 3) := by decide +kernel
theorem dX6_isThing_6 : decode cX6_isThing 6 = .ok (.getfield 114, 3) := by decide +kernel
theorem dX6_isThing_9 : decode cX6_isThing 9 = .ok (.iconst 1, 1) := by decide +kernel
theorem dX6_isThing_10 : decode cX6_isThing 10 = .ok (.isub, 1) := by decide +kernel
theorem dX6_isThing_11 : decode cX6_isThing 11 = .ok (.invokestatic 79, 3) := by decide +kernel
theorem dX6_isThing_14 : decode cX6_isThing 14 = .ok (.ireturn, 1) := by decide +kernel
theorem dX6_isSetOfThings_0 : decode cX6_isSetOfThings 0 = .ok (.iload_n 1, 1) := by decide +kernel
theorem dX6_isSetOfThings_1 : decode cX6_isSetOfThings 1 = .ok (.iconst 1, 1) := by decide +kernel
theorem dX6_isSetOfThings_2 : decode cX6_isSetOfThings 2 = .ok (.iconst 1, 1) := by decide +kernel
theorem dX6_isSetOfThings_3 : decode cX6_isSetOfThings 3 = .ok (.aload_n 0, 1) := by decide +kernel
theorem dX6_isSetOfThings_4 : decode cX6_isSetOfThings 4 = .ok (.getfield 12, 3) := by decide +kernel
theorem dX6_isSetOfThings_7 : decode cX6_isSetOfThings 7 = .ok (.getfield 114, 3) := by decide +kernel
theorem dX6_isSetOfThings_10 : decode cX6_isSetOfThings 10 = .ok (.ishl, 1) := by decide +kernel
theorem dX6_isSetOfThings_11 : decode cX6_isSetOfThings 11 = .ok (.iconst 1, 1) := by decide +kernel
theorem dX6_isSetOfThings_12 : decode cX6_isSetOfThings 12 = .ok (.isub, 1) := by decide +kernel
theorem dX6_isSetOfThings_13 : decode cX6_isSetOfThings 13 = .ok (.invokestatic 79, 3) := by decide +kernel
theorem dX6_isSetOfThings_16 : decode cX6_isSetOfThings 16 = .ok (.ireturn, 1) := by decide +kernel
theorem dX6_isCell_0 : decode cX6_isCell 0 = .ok (.iload_n 0, 1) := by decide +kernel
theorem dX6_isCell_1 : decode cX6_isCell 1 = .ok (.iconst 0, 1) := by decide +kernel
theorem dX6_isCell_2 : decode cX6_isCell 2 = .ok (.bipush 30, 2) := by decide +kernel
theorem dX6_isCell_4 : decode cX6_isCell 4 = .ok (.invokestatic 79, 3) := by decide +kernel
theorem dX6_isCell_7 : decode cX6_isCell 7 = .ok (.ireturn, 1) := by decide +kernel
theorem dX6_isFall_0 : decode cX6_isFall 0 = .ok (.iload_n 0, 1) := by decide +kernel
theorem dX6_isFall_1 : decode cX6_isFall 1 = .ok (.bipush (-9), 2) := by decide +kernel
theorem dX6_isFall_3 : decode cX6_isFall 3 = .ok (.bipush 9, 2) := by decide +kernel
theorem dX6_isFall_5 : decode cX6_isFall 5 = .ok (.invokestatic 79, 3) := by decide +kernel
theorem dX6_isFall_8 : decode cX6_isFall 8 = .ok (.ireturn, 1) := by decide +kernel
theorem dX6_isMinuteOfHour_0 : decode cX6_isMinuteOfHour 0 = .ok (.iload_n 0, 1) := by decide +kernel
theorem dX6_isMinuteOfHour_1 : decode cX6_isMinuteOfHour 1 = .ok (.iconst 0, 1) := by decide +kernel
theorem dX6_isMinuteOfHour_2 : decode cX6_isMinuteOfHour 2 = .ok (.bipush 59, 2) := by decide +kernel
theorem dX6_isMinuteOfHour_4 : decode cX6_isMinuteOfHour 4 = .ok (.invokestatic 79, 3) := by decide +kernel
theorem dX6_isMinuteOfHour_7 : decode cX6_isMinuteOfHour 7 = .ok (.ireturn, 1) := by decide +kernel
theorem dX6_isKind_0 : decode cX6_isKind 0 = .ok (.iload_n 0, 1) := by decide +kernel
theorem dX6_isKind_1 : decode cX6_isKind 1 = .ok (.iconst 0, 1) := by decide +kernel
theorem dX6_isKind_2 : decode cX6_isKind 2 = .ok (.bipush 6, 2) := by decide +kernel
theorem dX6_isKind_4 : decode cX6_isKind 4 = .ok (.invokestatic 79, 3) := by decide +kernel
theorem dX6_isKind_7 : decode cX6_isKind 7 = .ok (.ireturn, 1) := by decide +kernel
theorem dX6_isWeight_0 : decode cX6_isWeight 0 = .ok (.iload_n 0, 1) := by decide +kernel
theorem dX6_isWeight_1 : decode cX6_isWeight 1 = .ok (.iconst 1, 1) := by decide +kernel
theorem dX6_isWeight_2 : decode cX6_isWeight 2 = .ok (.bipush 99, 2) := by decide +kernel
theorem dX6_isWeight_4 : decode cX6_isWeight 4 = .ok (.invokestatic 79, 3) := by decide +kernel
theorem dX6_isWeight_7 : decode cX6_isWeight 7 = .ok (.ireturn, 1) := by decide +kernel
theorem dX6_isRolls_0 : decode cX6_isRolls 0 = .ok (.iload_n 0, 1) := by decide +kernel
theorem dX6_isRolls_1 : decode cX6_isRolls 1 = .ok (.iconst 1, 1) := by decide +kernel
theorem dX6_isRolls_2 : decode cX6_isRolls 2 = .ok (.bipush 9, 2) := by decide +kernel
theorem dX6_isRolls_4 : decode cX6_isRolls 4 = .ok (.invokestatic 79, 3) := by decide +kernel
theorem dX6_isRolls_7 : decode cX6_isRolls 7 = .ok (.ireturn, 1) := by decide +kernel
theorem dX6_isLean_0 : decode cX6_isLean 0 = .ok (.iload_n 0, 1) := by decide +kernel
theorem dX6_isLean_1 : decode cX6_isLean 1 = .ok (.iconst 0, 1) := by decide +kernel
theorem dX6_isLean_2 : decode cX6_isLean 2 = .ok (.bipush 9, 2) := by decide +kernel
theorem dX6_isLean_4 : decode cX6_isLean 4 = .ok (.invokestatic 79, 3) := by decide +kernel
theorem dX6_isLean_7 : decode cX6_isLean 7 = .ok (.ireturn, 1) := by decide +kernel
theorem dX6_isSheet_0 : decode cX6_isSheet 0 = .ok (.iload_n 0, 1) := by decide +kernel
theorem dX6_isSheet_1 : decode cX6_isSheet 1 = .ok (.iconst 0, 1) := by decide +kernel
theorem dX6_isSheet_2 : decode cX6_isSheet 2 = .ok (.iconst 3, 1) := by decide +kernel
theorem dX6_isSheet_3 : decode cX6_isSheet 3 = .ok (.invokestatic 79, 3) := by decide +kernel
theorem dX6_isSheet_6 : decode cX6_isSheet 6 = .ok (.ireturn, 1) := by decide +kernel
theorem dX6_within_0 : decode cX6_within 0 = .ok (.iload_n 0, 1) := by decide +kernel
theorem dX6_within_1 : decode cX6_within 1 = .ok (.iload_n 1, 1) := by decide +kernel
theorem dX6_within_2 : decode cX6_within 2 = .ok (.if_icmp .lt 12, 3) := by decide +kernel
theorem dX6_within_5 : decode cX6_within 5 = .ok (.iload_n 0, 1) := by decide +kernel
theorem dX6_within_6 : decode cX6_within 6 = .ok (.iload_n 2, 1) := by decide +kernel
theorem dX6_within_7 : decode cX6_within 7 = .ok (.if_icmp .gt 7, 3) := by decide +kernel
theorem dX6_within_10 : decode cX6_within 10 = .ok (.iconst 1, 1) := by decide +kernel
theorem dX6_within_11 : decode cX6_within 11 = .ok (.goto 4, 3) := by decide +kernel
theorem dX6_within_14 : decode cX6_within 14 = .ok (.iconst 0, 1) := by decide +kernel
theorem dX6_within_15 : decode cX6_within 15 = .ok (.ireturn, 1) := by decide +kernel
theorem dX6_has_0 : decode cX6_has 0 = .ok (.iload_n 0, 1) := by decide +kernel
theorem dX6_has_1 : decode cX6_has 1 = .ok (.iload_n 1, 1) := by decide +kernel
theorem dX6_has_2 : decode cX6_has 2 = .ok (.ishr, 1) := by decide +kernel
theorem dX6_has_3 : decode cX6_has 3 = .ok (.iconst 1, 1) := by decide +kernel
theorem dX6_has_4 : decode cX6_has 4 = .ok (.iand, 1) := by decide +kernel
theorem dX6_has_5 : decode cX6_has 5 = .ok (.ifCond .eq 7, 3) := by decide +kernel
theorem dX6_has_8 : decode cX6_has 8 = .ok (.iconst 1, 1) := by decide +kernel
theorem dX6_has_9 : decode cX6_has 9 = .ok (.goto 4, 3) := by decide +kernel
theorem dX6_has_12 : decode cX6_has 12 = .ok (.iconst 0, 1) := by decide +kernel
theorem dX6_has_13 : decode cX6_has 13 = .ok (.ireturn, 1) := by decide +kernel
