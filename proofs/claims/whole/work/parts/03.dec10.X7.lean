theorem dX7_init_0 : decode cX7_init 0 = .ok (.aload_n 0, 1) := by decide +kernel
theorem dX7_init_1 : decode cX7_init 1 = .ok (.invokespecial 1, 3) := by decide +kernel
theorem dX7_init_4 : decode cX7_init 4 = .ok (.aload_n 0, 1) := by decide +kernel
theorem dX7_init_5 : decode cX7_init 5 = .ok (.sipush 167, 3) := by decide +kernel
theorem dX7_init_8 : decode cX7_init 8 = .ok (.newarray .int, 2) := by decide +kernel
theorem dX7_init_10 : decode cX7_init 10 = .ok (.putfield 7, 3) := by decide +kernel
theorem dX7_init_13 : decode cX7_init 13 = .ok (.aload_n 0, 1) := by decide +kernel
theorem dX7_init_14 : decode cX7_init 14 = .ok (.sipush 167, 3) := by decide +kernel
theorem dX7_init_17 : decode cX7_init 17 = .ok (.newarray .int, 2) := by decide +kernel
theorem dX7_init_19 : decode cX7_init 19 = .ok (.putfield 13, 3) := by decide +kernel
theorem dX7_init_22 : decode cX7_init 22 = .ok (.aload_n 0, 1) := by decide +kernel
theorem dX7_init_23 : decode cX7_init 23 = .ok (.sipush 167, 3) := by decide +kernel
theorem dX7_init_26 : decode cX7_init 26 = .ok (.newarray .int, 2) := by decide +kernel
theorem dX7_init_28 : decode cX7_init 28 = .ok (.putfield 16, 3) := by decide +kernel
theorem dX7_init_31 : decode cX7_init 31 = .ok (.aload_n 0, 1) := by decide +kernel
theorem dX7_init_32 : decode cX7_init 32 = .ok (.bipush 7, 2) := by decide +kernel
theorem dX7_init_34 : decode cX7_init 34 = .ok (.newarray .int, 2) := by decide +kernel
theorem dX7_init_36 : decode cX7_init 36 = .ok (.putfield 19, 3) := by decide +kernel
theorem dX7_init_39 : decode cX7_init 39 = .ok (.aload_n 0, 1) := by decide +kernel
theorem dX7_init_40 : decode cX7_init 40 = .ok (.sipush 1024, 3) := by decide +kernel
theorem dX7_init_43 : decode cX7_init 43 = .ok (.newarray .int, 2) := by decide +kernel
theorem dX7_init_45 : decode cX7_init 45 = .ok (.putfield 22, 3) := by decide +kernel
theorem dX7_init_48 : decode cX7_init 48 = .ok (.aload_n 0, 1) := by decide +kernel
theorem dX7_init_49 : decode cX7_init 49 = .ok (.bipush 10, 2) := by decide +kernel
theorem dX7_init_51 : decode cX7_init 51 = .ok (.newarray .int, 2) := by decide +kernel
theorem dX7_init_53 : decode cX7_init 53 = .ok (.putfield 25, 3) := by decide +kernel
theorem dX7_init_56 : decode cX7_init 56 = .ok (.aload_n 0, 1) := by decide +kernel
theorem dX7_init_57 : decode cX7_init 57 = .ok (.bipush 120, 2) := by decide +kernel
theorem dX7_init_59 : decode cX7_init 59 = .ok (.newarray .int, 2) := by decide +kernel
theorem dX7_init_61 : decode cX7_init 61 = .ok (.putfield 28, 3) := by decide +kernel
theorem dX7_init_64 : decode cX7_init 64 = .ok (.aload_n 0, 1) := by decide +kernel
theorem dX7_init_65 : decode cX7_init 65 = .ok (.iconst 4, 1) := by decide +kernel
theorem dX7_init_66 : decode cX7_init 66 = .ok (.newarray .int, 2) := by decide +kernel
theorem dX7_init_68 : decode cX7_init 68 = .ok (.putfield 31, 3) := by decide +kernel
theorem dX7_init_71 : decode cX7_init 71 = .ok (.aload_n 0, 1) := by decide +kernel
theorem dX7_init_72 : decode cX7_init 72 = .ok (.iconst 4, 1) := by decide +kernel
theorem dX7_init_73 : decode cX7_init 73 = .ok (.newarray .int, 2) := by decide +kernel
theorem dX7_init_75 : decode cX7_init 75 = .ok (.putfield 34, 3) := by decide +kernel
theorem dX7_init_78 : decode cX7_init 78 = .ok (.aload_n 0, 1) := by decide +kernel
theorem dX7_init_79 : decode cX7_init 79 = .ok (.sipush 160, 3) := by decide +kernel
theorem dX7_init_82 : decode cX7_init 82 = .ok (.newarray .int, 2) := by decide +kernel
theorem dX7_init_84 : decode cX7_init 84 = .ok (.putfield 37, 3) := by decide +kernel
theorem dX7_init_87 : decode cX7_init 87 = .ok (.aload_n 0, 1) := by decide +kernel
theorem dX7_init_88 : decode cX7_init 88 = .ok (.bipush 40, 2) := by decide +kernel
theorem dX7_init_90 : decode cX7_init 90 = .ok (.newarray .int, 2) := by decide +kernel
theorem dX7_init_92 : decode cX7_init 92 = .ok (.putfield 40, 3) := by decide +kernel
theorem dX7_init_95 : decode cX7_init 95 = .ok (.aload_n 0, 1) := by decide +kernel
theorem dX7_init_96 : decode cX7_init 96 = .ok (.getfield 7, 3) := by decide +kernel
theorem dX7_init_99 : decode cX7_init 99 = .ok (.iconst 3, 1) := by decide +kernel
theorem dX7_init_100 : decode cX7_init 100 = .ok (.bipush 14, 2) := by decide +kernel
theorem dX7_init_102 : decode cX7_init 102 = .ok (.iastore, 1) := by decide +kernel
theorem dX7_init_103 : decode cX7_init 103 = .ok (.aload_n 0, 1) := by decide +kernel
theorem dX7_init_104 : decode cX7_init 104 = .ok (.getfield 7, 3) := by decide +kernel
theorem dX7_init_107 : decode cX7_init 107 = .ok (.iconst 4, 1) := by decide +kernel
theorem dX7_init_108 : decode cX7_init 108 = .ok (.iconst 1, 1) := by decide +kernel
theorem dX7_init_109 : decode cX7_init 109 = .ok (.iastore, 1) := by decide +kernel
theorem dX7_init_110 : decode cX7_init 110 = .ok (.iconst 0, 1) := by decide +kernel
theorem dX7_init_111 : decode cX7_init 111 = .ok (.istore_n 1, 1) := by decide +kernel
theorem dX7_init_112 : decode cX7_init 112 = .ok (.iload_n 1, 1) := by decide +kernel
theorem dX7_init_113 : decode cX7_init 113 = .ok (.bipush 31, 2) := by decide +kernel
theorem dX7_init_115 : decode cX7_init 115 = .ok (.if_icmp .ge 18, 3) := by decide +kernel
theorem dX7_init_118 : decode cX7_init 118 = .ok (.aload_n 0, 1) := by decide +kernel
theorem dX7_init_119 : decode cX7_init 119 = .ok (.getfield 7, 3) := by decide +kernel
theorem dX7_init_122 : decode cX7_init 122 = .ok (.iconst 5, 1) := by decide +kernel
theorem dX7_init_123 : decode cX7_init 123 = .ok (.iload_n 1, 1) := by decide +kernel
theorem dX7_init_124 : decode cX7_init 124 = .ok (.iadd, 1) := by decide +kernel
theorem dX7_init_125 : decode cX7_init 125 = .ok (.iconst 2, 1) := by decide +kernel
theorem dX7_init_126 : decode cX7_init 126 = .ok (.iastore, 1) := by decide +kernel
theorem dX7_init_127 : decode cX7_init 127 = .ok (.iinc 1 1, 3) := by decide +kernel
theorem dX7_init_130 : decode cX7_init 130 = .ok (.goto (-18), 3) := by decide +kernel
theorem dX7_init_133 : decode cX7_init 133 = .ok (.iconst 0, 1) := by decide +kernel
theorem dX7_init_134 : decode cX7_init 134 = .ok (.istore_n 1, 1) := by decide +kernel
theorem dX7_init_135 : decode cX7_init 135 = .ok (.iload_n 1, 1) := by decide +kernel
theorem dX7_init_136 : decode cX7_init 136 = .ok (.bipush 10, 2) := by decide +kernel
theorem dX7_init_138 : decode cX7_init 138 = .ok (.if_icmp .ge 20, 3) := by decide +kernel
theorem dX7_init_141 : decode cX7_init 141 = .ok (.aload_n 0, 1) := by decide +kernel
theorem dX7_init_142 : decode cX7_init 142 = .ok (.getfield 7, 3) := by decide +kernel
theorem dX7_init_145 : decode cX7_init 145 = .ok (.sipush 157, 3) := by decide +kernel
theorem dX7_init_148 : decode cX7_init 148 = .ok (.iload_n 1, 1) := by decide +kernel
theorem dX7_init_149 : decode cX7_init 149 = .ok (.iadd, 1) := by decide +kernel
theorem dX7_init_150 : decode cX7_init 150 = .ok (.iconst (-1), 1) := by decide +kernel
theorem dX7_init_151 : decode cX7_init 151 = .ok (.iastore, 1) := by decide +kernel
theorem dX7_init_152 : decode cX7_init 152 = .ok (.iinc 1 1, 3) := by decide +kernel
theorem dX7_init_155 : decode cX7_init 155 = .ok (.goto (-20), 3) := by decide +kernel
theorem dX7_init_158 : decode cX7_init 158 = .ok (.return_, 1) := by decide +kernel
theorem dX7_in_0 : decode cX7_in 0 = .ok (.lload_n 0, 1) := by decide +kernel
theorem dX7_in_1 : decode cX7_in 1 = .ok (.lload_n 2, 1) := by decide +kernel
theorem dX7_in_2 : decode cX7_in 2 = .ok (.lcmp, 1) := by decide +kernel
theorem dX7_in_3 : decode cX7_in 3 = .ok (.ifCond .lt 14, 3) := by decide +kernel
theorem dX7_in_6 : decode cX7_in 6 = .ok (.lload_n 0, 1) := by decide +kernel
theorem dX7_in_7 : decode cX7_in 7 = .ok (.lload 4, 2) := by decide +kernel
theorem dX7_in_9 : decode cX7_in 9 = .ok (.lcmp, 1) := by decide +kernel
theorem dX7_in_10 : decode cX7_in 10 = .ok (.ifCond .gt 7, 3) := by decide +kernel
theorem dX7_in_13 : decode cX7_in 13 = .ok (.iconst 1, 1) := by decide +kernel
theorem dX7_in_14 : decode cX7_in 14 = .ok (.goto 4, 3) := by decide +kernel
theorem dX7_in_17 : decode cX7_in 17 = .ok (.iconst 0, 1) := by decide +kernel
theorem dX7_in_18 : decode cX7_in 18 = .ok (.ireturn, 1) := by decide +kernel
theorem dX7_finds_0 : decode cX7_finds 0 = .ok (.aload_n 0, 1) := by decide +kernel
theorem dX7_finds_1 : decode cX7_finds 1 = .ok (.getfield 19, 3) := by decide +kernel
theorem dX7_finds_4 : decode cX7_finds 4 = .ok (.ldc 43, 2) := by decide +kernel
theorem dX7_finds_6 : decode cX7_finds 6 = .ok (.iload_n 1, 1) := by decide +kernel
theorem dX7_finds_7 : decode cX7_finds 7 = .ok (.isub, 1) := by decide +kernel
theorem dX7_finds_8 : decode cX7_finds 8 = .ok (.dup2, 1) := by decide +kernel
theorem dX7_finds_9 : decode cX7_finds 9 = .ok (.iaload, 1) := by decide +kernel
theorem dX7_finds_10 : decode cX7_finds 10 = .ok (.iconst 1, 1) := by decide +kernel
theorem dX7_finds_11 : decode cX7_finds 11 = .ok (.iadd, 1) := by decide +kernel
theorem dX7_finds_12 : decode cX7_finds 12 = .ok (.iastore, 1) := by decide +kernel
theorem dX7_finds_13 : decode cX7_finds 13 = .ok (.iload_n 1, 1) := by decide +kernel
theorem dX7_finds_14 : decode cX7_finds 14 = .ok (.ireturn, 1) := by decide +kernel
theorem dX7_isCell_0 : decode cX7_isCell 0 = .ok (.iload_n 0, 1) := by decide +kernel
theorem dX7_isCell_1 : decode cX7_isCell 1 = .ok (.i2l, 1) := by decide +kernel
theorem dX7_isCell_2 : decode cX7_isCell 2 = .ok (.lconst 0, 1) := by decide +kernel
theorem dX7_isCell_3 : decode cX7_isCell 3 = .ok (.ldc2_w 44, 3) := by decide +kernel
theorem dX7_isCell_6 : decode cX7_isCell 6 = .ok (.invokestatic 46, 3) := by decide +kernel
theorem dX7_isCell_9 : decode cX7_isCell 9 = .ok (.ireturn, 1) := by decide +kernel
theorem dX7_isThing_0 : decode cX7_isThing 0 = .ok (.iload_n 1, 1) := by decide +kernel
theorem dX7_isThing_1 : decode cX7_isThing 1 = .ok (.i2l, 1) := by decide +kernel
theorem dX7_isThing_2 : decode cX7_isThing 2 = .ok (.lconst 0, 1) := by decide +kernel
theorem dX7_isThing_3 : decode cX7_isThing 3 = .ok (.aload_n 0, 1) := by decide +kernel
theorem dX7_isThing_4 : decode cX7_isThing 4 = .ok (.getfield 7, 3) := by decide +kernel
theorem dX7_isThing_7 : decode cX7_isThing 7 = .ok (.iconst 1, 1) := by decide +kernel
theorem dX7_isThing_8 : decode cX7_isThing 8 = .ok (.iaload, 1) := by decide +kernel
theorem dX7_isThing_9 : decode cX7_isThing 9 = .ok (.iconst 1, 1) := by decide +kernel
theorem dX7_isThing_10 : decode cX7_isThing 10 = .ok (.isub, 1) := by decide +kernel
theorem dX7_isThing_11 : decode cX7_isThing 11 = .ok (.i2l, 1) := by decide +kernel
theorem dX7_isThing_12 : decode cX7_isThing 12 = .ok (.invokestatic 46, 3) := by decide +kernel
theorem dX7_isThing_15 : decode cX7_isThing 15 = .ok (.ireturn, 1) := by decide +kernel
theorem dX7_has_0 : decode cX7_has 0 = .ok (.iload_n 0, 1) := by decide +kernel
theorem dX7_has_1 : decode cX7_has 1 = .ok (.iload_n 1, 1) := by decide +kernel
theorem dX7_has_2 : decode cX7_has 2 = .ok (.ishr, 1) := by decide +kernel
theorem dX7_has_3 : decode cX7_has 3 = .ok (.iconst 1, 1) := by decide +kernel
theorem dX7_has_4 : decode cX7_has 4 = .ok (.iand, 1) := by decide +kernel
theorem dX7_has_5 : decode cX7_has 5 = .ok (.iconst 1, 1) := by decide +kernel
theorem dX7_has_6 : decode cX7_has 6 = .ok (.if_icmp .ne 7, 3) := by decide +kernel
theorem dX7_has_9 : decode cX7_has 9 = .ok (.iconst 1, 1) := by decide +kernel
theorem dX7_has_10 : decode cX7_has 10 = .ok (.goto 4, 3) := by decide +kernel
theorem dX7_has_13 : decode cX7_has 13 = .ok (.iconst 0, 1) := by decide +kernel
theorem dX7_has_14 : decode cX7_has 14 = .ok (.ireturn, 1) := by decide +kernel
theorem dX7_draw_0 : decode cX7_draw 0 = .ok (.aload_n 0, 1) := by decide +kernel
theorem dX7_draw_1 : decode cX7_draw 1 = .ok (.getfield 7, 3) := by decide +kernel
theorem dX7_draw_4 : decode cX7_draw 4 = .ok (.iconst 4, 1) := by decide +kernel
theorem dX7_draw_5 : decode cX7_draw 5 = .ok (.aload_n 0, 1) := by decide +kernel
theorem dX7_draw_6 : decode cX7_draw 6 = .ok (.getfield 7, 3) := by decide +kernel
theorem dX7_draw_9 : decode cX7_draw 9 = .ok (.iconst 4, 1) := by decide +kernel
theorem dX7_draw_10 : decode cX7_draw 10 = .ok (.iaload, 1) := by decide +kernel
theorem dX7_draw_11 : decode cX7_draw 11 = .ok (.ldc 50, 2) := by decide +kernel
theorem dX7_draw_13 : decode cX7_draw 13 = .ok (.imul, 1) := by decide +kernel
theorem dX7_draw_14 : decode cX7_draw 14 = .ok (.sipush 12345, 3) := by decide +kernel
theorem dX7_draw_17 : decode cX7_draw 17 = .ok (.iadd, 1) := by decide +kernel
theorem dX7_draw_18 : decode cX7_draw 18 = .ok (.iastore, 1) := by decide +kernel
theorem dX7_draw_19 : decode cX7_draw 19 = .ok (.aload_n 0, 1) := by decide +kernel
theorem dX7_draw_20 : decode cX7_draw 20 = .ok (.getfield 7, 3) := by decide +kernel
theorem dX7_draw_23 : decode cX7_draw 23 = .ok (.iconst 4, 1) := by decide +kernel
theorem dX7_draw_24 : decode cX7_draw 24 = .ok (.iaload, 1) := by decide +kernel
theorem dX7_draw_25 : decode cX7_draw 25 = .ok (.bipush 8, 2) := by decide +kernel
theorem dX7_draw_27 : decode cX7_draw 27 = .ok (.iushr, 1) := by decide +kernel
theorem dX7_draw_28 : decode cX7_draw 28 = .ok (.ireturn, 1) := by decide +kernel
theorem dX7_puts_0 : decode cX7_puts 0 = .ok (.iconst 0, 1) := by decide +kernel
theorem dX7_puts_1 : decode cX7_puts 1 = .ok (.istore_n 1, 1) := by decide +kernel
theorem dX7_puts_2 : decode cX7_puts 2 = .ok (.iload_n 1, 1) := by decide +kernel
theorem dX7_puts_3 : decode cX7_puts 3 = .ok (.sipush 167, 3) := by decide +kernel
theorem dX7_puts_6 : decode cX7_puts 6 = .ok (.if_icmp .ge 21, 3) := by decide +kernel
theorem dX7_puts_9 : decode cX7_puts 9 = .ok (.aload_n 0, 1) := by decide +kernel
theorem dX7_puts_10 : decode cX7_puts 10 = .ok (.getfield 16, 3) := by decide +kernel
theorem dX7_puts_13 : decode cX7_puts 13 = .ok (.iload_n 1, 1) := by decide +kernel
theorem dX7_puts_14 : decode cX7_puts 14 = .ok (.aload_n 0, 1) := by decide +kernel
theorem dX7_puts_15 : decode cX7_puts 15 = .ok (.getfield 7, 3) := by decide +kernel
theorem dX7_puts_18 : decode cX7_puts 18 = .ok (.iload_n 1, 1) := by decide +kernel
theorem dX7_puts_19 : decode cX7_puts 19 = .ok (.iaload, 1) := by decide +kernel
theorem dX7_puts_20 : decode cX7_puts 20 = .ok (.iastore, 1) := by decide +kernel
theorem dX7_puts_21 : decode cX7_puts 21 = .ok (.iinc 1 1, 3) := by decide +kernel
theorem dX7_puts_24 : decode cX7_puts 24 = .ok (.goto (-22), 3) := by decide +kernel
theorem dX7_puts_27 : decode cX7_puts 27 = .ok (.return_, 1) := by decide +kernel
theorem dX7_putsBack_0 : decode cX7_putsBack 0 = .ok (.iconst 0, 1) := by decide +kernel
theorem dX7_putsBack_1 : decode cX7_putsBack 1 = .ok (.istore_n 1, 1) := by decide +kernel
theorem dX7_putsBack_2 : decode cX7_putsBack 2 = .ok (.iload_n 1, 1) := by decide +kernel
theorem dX7_putsBack_3 : decode cX7_putsBack 3 = .ok (.sipush 167, 3) := by decide +kernel
theorem dX7_putsBack_6 : decode cX7_putsBack 6 = .ok (.if_icmp .ge 21, 3) := by decide +kernel
theorem dX7_putsBack_9 : decode cX7_putsBack 9 = .ok (.aload_n 0, 1) := by decide +kernel
theorem dX7_putsBack_10 : decode cX7_putsBack 10 = .ok (.getfield 7, 3) := by decide +kernel
theorem dX7_putsBack_13 : decode cX7_putsBack 13 = .ok (.iload_n 1, 1) := by decide +kernel
theorem dX7_putsBack_14 : decode cX7_putsBack 14 = .ok (.aload_n 0, 1) := by decide +kernel
theorem dX7_putsBack_15 : decode cX7_putsBack 15 = .ok (.getfield 16, 3) := by decide +kernel
theorem dX7_putsBack_18 : decode cX7_putsBack 18 = .ok (.iload_n 1, 1) := by decide +kernel
theorem dX7_putsBack_19 : decode cX7_putsBack 19 = .ok (.iaload, 1) := by decide +kernel
theorem dX7_putsBack_20 : decode cX7_putsBack 20 = .ok (.iastore, 1) := by decide +kernel
theorem dX7_putsBack_21 : decode cX7_putsBack 21 = .ok (.iinc 1 1, 3) := by decide +kernel
theorem dX7_putsBack_24 : decode cX7_putsBack 24 = .ok (.goto (-22), 3) := by decide +kernel
theorem dX7_putsBack_27 : decode cX7_putsBack 27 = .ok (.return_, 1) := by decide +kernel
theorem dX7_fall_0 : decode cX7_fall 0 = .ok (.iload_n 1, 1) := by decide +kernel
theorem dX7_fall_1 : decode cX7_fall 1 = .ok (.invokestatic 51, 3) := by decide +kernel
theorem dX7_fall_4 : decode cX7_fall 4 = .ok (.ifCond .eq 17, 3) := by decide +kernel
theorem dX7_fall_7 : decode cX7_fall 7 = .ok (.iload_n 2, 1) := by decide +kernel
theorem dX7_fall_8 : decode cX7_fall 8 = .ok (.i2l, 1) := by decide +kernel
theorem dX7_fall_9 : decode cX7_fall 9 = .ok (.ldc2_w 55, 3) := by decide +kernel
theorem dX7_fall_12 : decode cX7_fall 12 = .ok (.ldc2_w 57, 3) := by decide +kernel
theorem dX7_fall_15 : decode cX7_fall 15 = .ok (.invokestatic 46, 3) := by decide +kernel
theorem dX7_fall_18 : decode cX7_fall 18 = .ok (.ifCond .ne 10, 3) := by decide +kernel
theorem dX7_fall_21 : decode cX7_fall 21 = .ok (.aload_n 0, 1) := by decide +kernel
theorem dX7_fall_22 : decode cX7_fall 22 = .ok (.ldc 43, 2) := by decide +kernel
theorem dX7_fall_24 : decode cX7_fall 24 = .ok (.invokevirtual 59, 3) := by decide +kernel
theorem dX7_fall_27 : decode cX7_fall 27 = .ok (.ireturn, 1) := by decide +kernel
theorem dX7_fall_28 : decode cX7_fall 28 = .ok (.aload_n 0, 1) := by decide +kernel
theorem dX7_fall_29 : decode cX7_fall 29 = .ok (.getfield 7, 3) := by decide +kernel
theorem dX7_fall_32 : decode cX7_fall 32 = .ok (.iconst 5, 1) := by decide +kernel
theorem dX7_fall_33 : decode cX7_fall 33 = .ok (.iload_n 1, 1) := by decide +kernel
theorem dX7_fall_34 : decode cX7_fall 34 = .ok (.iadd, 1) := by decide +kernel
theorem dX7_fall_35 : decode cX7_fall 35 = .ok (.iaload, 1) := by decide +kernel
theorem dX7_fall_36 : decode cX7_fall 36 = .ok (.istore_n 3, 1) := by decide +kernel
theorem dX7_fall_37 : decode cX7_fall 37 = .ok (.aload_n 0, 1) := by decide +kernel
theorem dX7_fall_38 : decode cX7_fall 38 = .ok (.getfield 7, 3) := by decide +kernel
theorem dX7_fall_41 : decode cX7_fall 41 = .ok (.iconst 5, 1) := by decide +kernel
theorem dX7_fall_42 : decode cX7_fall 42 = .ok (.iload_n 1, 1) := by decide +kernel
theorem dX7_fall_43 : decode cX7_fall 43 = .ok (.iadd, 1) := by decide +kernel
theorem dX7_fall_44 : decode cX7_fall 44 = .ok (.iload_n 2, 1) := by decide +kernel
theorem dX7_fall_45 : decode cX7_fall 45 = .ok (.iastore, 1) := by decide +kernel
theorem dX7_fall_46 : decode cX7_fall 46 = .ok (.iload_n 3, 1) := by decide +kernel
theorem dX7_fall_47 : decode cX7_fall 47 = .ok (.ireturn, 1) := by decide +kernel
theorem dX7_ground_0 : decode cX7_ground 0 = .ok (.iload_n 1, 1) := by decide +kernel
theorem dX7_ground_1 : decode cX7_ground 1 = .ok (.invokestatic 51, 3) := by decide +kernel
theorem dX7_ground_4 : decode cX7_ground 4 = .ok (.ifCond .eq 15, 3) := by decide +kernel
theorem dX7_ground_7 : decode cX7_ground 7 = .ok (.iload_n 2, 1) := by decide +kernel
theorem dX7_ground_8 : decode cX7_ground 8 = .ok (.i2l, 1) := by decide +kernel
theorem dX7_ground_9 : decode cX7_ground 9 = .ok (.lconst 0, 1) := by decide +kernel
theorem dX7_ground_10 : decode cX7_ground 10 = .ok (.ldc2_w 63, 3) := by decide +kernel
theorem dX7_ground_13 : decode cX7_ground 13 = .ok (.invokestatic 46, 3) := by decide +kernel
theorem dX7_ground_16 : decode cX7_ground 16 = .ok (.ifCond .ne 10, 3) := by decide +kernel
theorem dX7_ground_19 : decode cX7_ground 19 = .ok (.aload_n 0, 1) := by decide +kernel
theorem dX7_ground_20 : decode cX7_ground 20 = .ok (.ldc 43, 2) := by decide +kernel
theorem dX7_ground_22 : decode cX7_ground 22 = .ok (.invokevirtual 59, 3) := by decide +kernel
theorem dX7_ground_25 : decode cX7_ground 25 = .ok (.ireturn, 1) := by decide +kernel
theorem dX7_ground_26 : decode cX7_ground 26 = .ok (.aload_n 0, 1) := by decide +kernel
theorem dX7_ground_27 : decode cX7_ground 27 = .ok (.getfield 7, 3) := by decide +kernel
theorem dX7_ground_30 : decode cX7_ground 30 = .ok (.bipush 36, 2) := by decide +kernel
theorem dX7_ground_32 : decode cX7_ground 32 = .ok (.iload_n 1, 1) := by decide +kernel
theorem dX7_ground_33 : decode cX7_ground 33 = .ok (.iadd, 1) := by decide +kernel
theorem dX7_ground_34 : decode cX7_ground 34 = .ok (.iaload, 1) := by decide +kernel
theorem dX7_ground_35 : decode cX7_ground 35 = .ok (.istore_n 3, 1) := by decide +kernel
theorem dX7_ground_36 : decode cX7_ground 36 = .ok (.aload_n 0, 1) := by decide +kernel
theorem dX7_ground_37 : decode cX7_ground 37 = .ok (.getfield 7, 3) := by decide +kernel
theorem dX7_ground_40 : decode cX7_ground 40 = .ok (.bipush 36, 2) := by decide +kernel
theorem dX7_ground_42 : decode cX7_ground 42 = .ok (.iload_n 1, 1) := by decide +kernel
theorem dX7_ground_43 : decode cX7_ground 43 = .ok (.iadd, 1) := by decide +kernel
theorem dX7_ground_44 : decode cX7_ground 44 = .ok (.iload_n 2, 1) := by decide +kernel
theorem dX7_ground_45 : decode cX7_ground 45 = .ok (.iastore, 1) := by decide +kernel
theorem dX7_ground_46 : decode cX7_ground 46 = .ok (.iload_n 3, 1) := by decide +kernel
theorem dX7_ground_47 : decode cX7_ground 47 = .ok (.ireturn, 1) := by decide +kernel
theorem dX7_gate_0 : decode cX7_gate 0 = .ok (.iload_n 1, 1) := by decide +kernel
theorem dX7_gate_1 : decode cX7_gate 1 = .ok (.i2l, 1) := by decide +kernel
theorem dX7_gate_2 : decode cX7_gate 2 = .ok (.lconst 0, 1) := by decide +kernel
theorem dX7_gate_3 : decode cX7_gate 3 = .ok (.lconst 1, 1) := by decide +kernel
theorem dX7_gate_4 : decode cX7_gate 4 = .ok (.invokestatic 46, 3) := by decide +kernel
theorem dX7_gate_7 : decode cX7_gate 7 = .ok (.ifCond .eq 15, 3) := by decide +kernel
theorem dX7_gate_10 : decode cX7_gate 10 = .ok (.iload_n 2, 1) := by decide +kernel
theorem dX7_gate_11 : decode cX7_gate 11 = .ok (.i2l, 1) := by decide +kernel
theorem dX7_gate_12 : decode cX7_gate 12 = .ok (.lconst 0, 1) := by decide +kernel
theorem dX7_gate_13 : decode cX7_gate 13 = .ok (.ldc2_w 65, 3) := by decide +kernel
theorem dX7_gate_16 : decode cX7_gate 16 = .ok (.invokestatic 46, 3) := by decide +kernel
theorem dX7_gate_19 : decode cX7_gate 19 = .ok (.ifCond .ne 10, 3) := by decide +kernel
theorem dX7_gate_22 : decode cX7_gate 22 = .ok (.aload_n 0, 1) := by decide +kernel
theorem dX7_gate_23 : decode cX7_gate 23 = .ok (.ldc 43, 2) := by decide +kernel
theorem dX7_gate_25 : decode cX7_gate 25 = .ok (.invokevirtual 59, 3) := by decide +kernel
theorem dX7_gate_28 : decode cX7_gate 28 = .ok (.ireturn, 1) := by decide +kernel
theorem dX7_gate_29 : decode cX7_gate 29 = .ok (.aload_n 0, 1) := by decide +kernel
theorem dX7_gate_30 : decode cX7_gate 30 = .ok (.getfield 7, 3) := by decide +kernel
theorem dX7_gate_33 : decode cX7_gate 33 = .ok (.iconst 2, 1) := by decide +kernel
theorem dX7_gate_34 : decode cX7_gate 34 = .ok (.iload_n 1, 1) := by decide +kernel
theorem dX7_gate_35 : decode cX7_gate 35 = .ok (.iadd, 1) := by decide +kernel
theorem dX7_gate_36 : decode cX7_gate 36 = .ok (.iaload, 1) := by decide +kernel
theorem dX7_gate_37 : decode cX7_gate 37 = .ok (.istore_n 3, 1) := by decide +kernel
theorem dX7_gate_38 : decode cX7_gate 38 = .ok (.aload_n 0, 1) := by decide +kernel
theorem dX7_gate_39 : decode cX7_gate 39 = .ok (.getfield 7, 3) := by decide +kernel
theorem dX7_gate_42 : decode cX7_gate 42 = .ok (.iconst 2, 1) := by decide +kernel
theorem dX7_gate_43 : decode cX7_gate 43 = .ok (.iload_n 1, 1) := by decide +kernel
theorem dX7_gate_44 : decode cX7_gate 44 = .ok (.iadd, 1) := by decide +kernel
theorem dX7_gate_45 : decode cX7_gate 45 = .ok (.iload_n 2, 1) := by decide +kernel
theorem dX7_gate_46 : decode cX7_gate 46 = .ok (.iastore, 1) := by decide +kernel
theorem dX7_gate_47 : decode cX7_gate 47 = .ok (.iload_n 3, 1) := by decide +kernel
theorem dX7_gate_48 : decode cX7_gate 48 = .ok (.ireturn, 1) := by decide +kernel
theorem dX7_isShut_0 : decode cX7_isShut 0 = .ok (.iload_n 1, 1) := by decide +kernel
theorem dX7_isShut_1 : decode cX7_isShut 1 = .ok (.bipush 60, 2) := by decide +kernel
theorem dX7_isShut_3 : decode cX7_isShut 3 = .ok (.irem, 1) := by decide +kernel
theorem dX7_isShut_4 : decode cX7_isShut 4 = .ok (.istore_n 2, 1) := by decide +kernel
theorem dX7_isShut_5 : decode cX7_isShut 5 = .ok (.aload_n 0, 1) := by decide +kernel
theorem dX7_isShut_6 : decode cX7_isShut 6 = .ok (.getfield 7, 3) := by decide +kernel
theorem dX7_isShut_9 : decode cX7_isShut 9 = .ok (.iconst 2, 1) := by decide +kernel
theorem dX7_isShut_10 : decode cX7_isShut 10 = .ok (.iaload, 1) := by decide +kernel
theorem dX7_isShut_11 : decode cX7_isShut 11 = .ok (.aload_n 0, 1) := by decide +kernel
theorem dX7_isShut_12 : decode cX7_isShut 12 = .ok (.getfield 7, 3) := by decide +kernel
theorem dX7_isShut_15 : decode cX7_isShut 15 = .ok (.iconst 3, 1) := by decide +kernel
theorem dX7_isShut_16 : decode cX7_isShut 16 = .ok (.iaload, 1) := by decide +kernel
theorem dX7_isShut_17 : decode cX7_isShut 17 = .ok (.if_icmp .le 31, 3) := by decide +kernel
theorem dX7_isShut_20 : decode cX7_isShut 20 = .ok (.iload_n 2, 1) := by decide +kernel
theorem dX7_isShut_21 : decode cX7_isShut 21 = .ok (.aload_n 0, 1) := by decide +kernel
theorem dX7_isShut_22 : decode cX7_isShut 22 = .ok (.getfield 7, 3) := by decide +kernel
theorem dX7_isShut_25 : decode cX7_isShut 25 = .ok (.iconst 2, 1) := by decide +kernel
theorem dX7_isShut_26 : decode cX7_isShut 26 = .ok (.iaload, 1) := by decide +kernel
theorem dX7_isShut_27 : decode cX7_isShut 27 = .ok (.if_icmp .ge 13, 3) := by decide +kernel
theorem dX7_isShut_30 : decode cX7_isShut 30 = .ok (.iload_n 2, 1) := by decide +kernel
theorem dX7_isShut_31 : decode cX7_isShut 31 = .ok (.aload_n 0, 1) := by decide +kernel
theorem dX7_isShut_32 : decode cX7_isShut 32 = .ok (.getfield 7, 3) := by decide +kernel
theorem dX7_isShut_35 : decode cX7_isShut 35 = .ok (.iconst 3, 1) := by decide +kernel
theorem dX7_isShut_36 : decode cX7_isShut 36 = .ok (.iaload, 1) := by decide +kernel
theorem dX7_isShut_37 : decode cX7_isShut 37 = .ok (.if_icmp .gt 7, 3) := by decide +kernel
theorem dX7_isShut_40 : decode cX7_isShut 40 = .ok (.iconst 1, 1) := by decide +kernel
theorem dX7_isShut_41 : decode cX7_isShut 41 = .ok (.goto 26, 3) := by decide +kernel
theorem dX7_isShut_44 : decode cX7_isShut 44 = .ok (.iconst 0, 1) := by decide +kernel
theorem dX7_isShut_45 : decode cX7_isShut 45 = .ok (.goto 22, 3) := by decide +kernel
theorem dX7_isShut_48 : decode cX7_isShut 48 = .ok (.iload_n 2, 1) := by decide +kernel
theorem dX7_isShut_49 : decode cX7_isShut 49 = .ok (.i2l, 1) := by decide +kernel
theorem dX7_isShut_50 : decode cX7_isShut 50 = .ok (.aload_n 0, 1) := by decide +kernel
theorem dX7_isShut_51 : decode cX7_isShut 51 = .ok (.getfield 7, 3) := by decide +kernel
theorem dX7_isShut_54 : decode cX7_isShut 54 = .ok (.iconst 2, 1) := by decide +kernel
theorem dX7_isShut_55 : decode cX7_isShut 55 = .ok (.iaload, 1) := by decide +kernel
theorem dX7_isShut_56 : decode cX7_isShut 56 = .ok (.i2l, 1) := by decide +kernel
theorem dX7_isShut_57 : decode cX7_isShut 57 = .ok (.aload_n 0, 1) := by decide +kernel
theorem dX7_isShut_58 : decode cX7_isShut 58 = .ok (.getfield 7, 3) := by decide +kernel
theorem dX7_isShut_61 : decode cX7_isShut 61 = .ok (.iconst 3, 1) := by decide +kernel
theorem dX7_isShut_62 : decode cX7_isShut 62 = .ok (.iaload, 1) := by decide +kernel
theorem dX7_isShut_63 : decode cX7_isShut 63 = .ok (.i2l, 1) := by decide +kernel
theorem dX7_isShut_64 : decode cX7_isShut 64 = .ok (.invokestatic 46, 3) := by decide +kernel
theorem dX7_isShut_67 : decode cX7_isShut 67 = .ok (.ireturn, 1) := by decide +kernel
theorem dX7_shut_0 : decode cX7_shut 0 = .ok (.iload_n 1, 1) := by decide +kernel
theorem dX7_shut_1 : decode cX7_shut 1 = .ok (.i2l, 1) := by decide +kernel
theorem dX7_shut_2 : decode cX7_shut 2 = .ok (.lconst 0, 1) := by decide +kernel
theorem dX7_shut_3 : decode cX7_shut 3 = .ok (.ldc2_w 67, 3) := by decide +kernel
theorem dX7_shut_6 : decode cX7_shut 6 = .ok (.invokestatic 46, 3) := by decide +kernel
theorem dX7_shut_9 : decode cX7_shut 9 = .ok (.ifCond .eq 19, 3) := by decide +kernel
theorem dX7_shut_12 : decode cX7_shut 12 = .ok (.aload_n 0, 1) := by decide +kernel
theorem dX7_shut_13 : decode cX7_shut 13 = .ok (.iload_n 1, 1) := by decide +kernel
theorem dX7_shut_14 : decode cX7_shut 14 = .ok (.invokevirtual 69, 3) := by decide +kernel
theorem dX7_shut_17 : decode cX7_shut 17 = .ok (.ifCond .eq 7, 3) := by decide +kernel
theorem dX7_shut_20 : decode cX7_shut 20 = .ok (.iconst 1, 1) := by decide +kernel
theorem dX7_shut_21 : decode cX7_shut 21 = .ok (.goto 13, 3) := by decide +kernel
theorem dX7_shut_24 : decode cX7_shut 24 = .ok (.iconst 0, 1) := by decide +kernel
theorem dX7_shut_25 : decode cX7_shut 25 = .ok (.goto 9, 3) := by decide +kernel
theorem dX7_shut_28 : decode cX7_shut 28 = .ok (.aload_n 0, 1) := by decide +kernel
theorem dX7_shut_29 : decode cX7_shut 29 = .ok (.ldc 43, 2) := by decide +kernel
theorem dX7_shut_31 : decode cX7_shut 31 = .ok (.invokevirtual 59, 3) := by decide +kernel
theorem dX7_shut_34 : decode cX7_shut 34 = .ok (.ireturn, 1) := by decide +kernel
theorem dX7_at_0 : decode cX7_at 0 = .ok (.bipush 67, 2) := by decide +kernel
theorem dX7_at_2 : decode cX7_at 2 = .ok (.bipush 9, 2) := by decide +kernel
theorem dX7_at_4 : decode cX7_at 4 = .ok (.iload_n 0, 1) := by decide +kernel
theorem dX7_at_5 : decode cX7_at 5 = .ok (.imul, 1) := by decide +kernel
theorem dX7_at_6 : decode cX7_at 6 = .ok (.iadd, 1) := by decide +kernel
theorem dX7_at_7 : decode cX7_at 7 = .ok (.iload_n 1, 1) := by decide +kernel
theorem dX7_at_8 : decode cX7_at 8 = .ok (.iadd, 1) := by decide +kernel
theorem dX7_at_9 : decode cX7_at 9 = .ok (.ireturn, 1) := by decide +kernel
theorem dX7_its_0 : decode cX7_its 0 = .ok (.aload_n 0, 1) := by decide +kernel
theorem dX7_its_1 : decode cX7_its 1 = .ok (.getfield 7, 3) := by decide +kernel
theorem dX7_its_4 : decode cX7_its 4 = .ok (.iload_n 1, 1) := by decide +kernel
theorem dX7_its_5 : decode cX7_its 5 = .ok (.iload_n 2, 1) := by decide +kernel
theorem dX7_its_6 : decode cX7_its 6 = .ok (.invokestatic 72, 3) := by decide +kernel
theorem dX7_its_9 : decode cX7_its 9 = .ok (.iaload, 1) := by decide +kernel
theorem dX7_its_10 : decode cX7_its 10 = .ok (.ireturn, 1) := by decide +kernel
theorem dX7_newThing_0 : decode cX7_newThing 0 = .ok (.aload_n 0, 1) := by decide +kernel
theorem dX7_newThing_1 : decode cX7_newThing 1 = .ok (.getfield 7, 3) := by decide +kernel
theorem dX7_newThing_4 : decode cX7_newThing 4 = .ok (.iconst 1, 1) := by decide +kernel
theorem dX7_newThing_5 : decode cX7_newThing 5 = .ok (.iaload, 1) := by decide +kernel
theorem dX7_newThing_6 : decode cX7_newThing 6 = .ok (.istore 5, 2) := by decide +kernel
theorem dX7_newThing_8 : decode cX7_newThing 8 = .ok (.iconst 0, 1) := by decide +kernel
theorem dX7_newThing_9 : decode cX7_newThing 9 = .ok (.istore 6, 2) := by decide +kernel
theorem dX7_newThing_11 : decode cX7_newThing 11 = .ok (.iload 6, 2) := by decide +kernel
theorem dX7_newThing_13 : decode cX7_newThing 13 = .ok (.bipush 9, 2) := by decide +kernel
theorem dX7_newThing_15 : decode cX7_newThing 15 = .ok (.if_icmp .ge 22, 3) := by decide +kernel
theorem dX7_newThing_18 : decode cX7_newThing 18 = .ok (.aload_n 0, 1) := by decide +kernel
theorem dX7_newThing_19 : decode cX7_newThing 19 = .ok (.getfield 7, 3) := by decide +kernel
theorem dX7_newThing_22 : decode cX7_newThing 22 = .ok (.iload 5, 2) := by decide +kernel
theorem dX7_newThing_24 : decode cX7_newThing 24 = .ok (.iload 6, 2) := by decide +kernel
theorem dX7_newThing_26 : decode cX7_newThing 26 = .ok (.invokestatic 72, 3) := by decide +kernel
theorem dX7_newThing_29 : decode cX7_newThing 29 = .ok (.iconst 0, 1) := by decide +kernel
theorem dX7_newThing_30 : decode cX7_newThing 30 = .ok (.iastore, 1) := by decide +kernel
theorem dX7_newThing_31 : decode cX7_newThing 31 = .ok (.iinc 6 1, 3) := by decide +kernel
theorem dX7_newThing_34 : decode cX7_newThing 34 = .ok (.goto (-23), 3) := by decide +kernel
theorem dX7_newThing_37 : decode cX7_newThing 37 = .ok (.aload_n 0, 1) := by decide +kernel
theorem dX7_newThing_38 : decode cX7_newThing 38 = .ok (.getfield 7, 3) := by decide +kernel
theorem dX7_newThing_41 : decode cX7_newThing 41 = .ok (.iload 5, 2) := by decide +kernel
theorem dX7_newThing_43 : decode cX7_newThing 43 = .ok (.iconst 0, 1) := by decide +kernel
theorem dX7_newThing_44 : decode cX7_newThing 44 = .ok (.invokestatic 72, 3) := by decide +kernel
theorem dX7_newThing_47 : decode cX7_newThing 47 = .ok (.iload_n 1, 1) := by decide +kernel
theorem dX7_newThing_48 : decode cX7_newThing 48 = .ok (.iastore, 1) := by decide +kernel
theorem dX7_newThing_49 : decode cX7_newThing 49 = .ok (.aload_n 0, 1) := by decide +kernel
theorem dX7_newThing_50 : decode cX7_newThing 50 = .ok (.getfield 7, 3) := by decide +kernel
theorem dX7_newThing_53 : decode cX7_newThing 53 = .ok (.iload 5, 2) := by decide +kernel
theorem dX7_newThing_55 : decode cX7_newThing 55 = .ok (.iconst 1, 1) := by decide +kernel
theorem dX7_newThing_56 : decode cX7_newThing 56 = .ok (.invokestatic 72, 3) := by decide +kernel
theorem dX7_newThing_59 : decode cX7_newThing 59 = .ok (.iload_n 2, 1) := by decide +kernel
theorem dX7_newThing_60 : decode cX7_newThing 60 = .ok (.iastore, 1) := by decide +kernel
theorem dX7_newThing_61 : decode cX7_newThing 61 = .ok (.aload_n 0, 1) := by decide +kernel
theorem dX7_newThing_62 : decode cX7_newThing 62 = .ok (.getfield 7, 3) := by decide +kernel
theorem dX7_newThing_65 : decode cX7_newThing 65 = .ok (.iload 5, 2) := by decide +kernel
theorem dX7_newThing_67 : decode cX7_newThing 67 = .ok (.iconst 2, 1) := by decide +kernel
theorem dX7_newThing_68 : decode cX7_newThing 68 = .ok (.invokestatic 72, 3) := by decide +kernel
theorem dX7_newThing_71 : decode cX7_newThing 71 = .ok (.iload_n 3, 1) := by decide +kernel
theorem dX7_newThing_72 : decode cX7_newThing 72 = .ok (.iastore, 1) := by decide +kernel
theorem dX7_newThing_73 : decode cX7_newThing 73 = .ok (.aload_n 0, 1) := by decide +kernel
theorem dX7_newThing_74 : decode cX7_newThing 74 = .ok (.getfield 7, 3) := by decide +kernel
theorem dX7_newThing_77 : decode cX7_newThing 77 = .ok (.iload 5, 2) := by decide +kernel
theorem dX7_newThing_79 : decode cX7_newThing 79 = .ok (.iconst 3, 1) := by decide +kernel
theorem dX7_newThing_80 : decode cX7_newThing 80 = .ok (.invokestatic 72, 3) := by decide +kernel
theorem dX7_newThing_83 : decode cX7_newThing 83 = .ok (.iload 4, 2) := by decide +kernel
theorem dX7_newThing_85 : decode cX7_newThing 85 = .ok (.iastore, 1) := by decide +kernel
theorem dX7_newThing_86 : decode cX7_newThing 86 = .ok (.aload_n 0, 1) := by decide +kernel
theorem dX7_newThing_87 : decode cX7_newThing 87 = .ok (.getfield 7, 3) := by decide +kernel
theorem dX7_newThing_90 : decode cX7_newThing 90 = .ok (.iconst 1, 1) := by decide +kernel
theorem dX7_newThing_91 : decode cX7_newThing 91 = .ok (.dup2, 1) := by decide +kernel
theorem dX7_newThing_92 : decode cX7_newThing 92 = .ok (.iaload, 1) := by decide +kernel
theorem dX7_newThing_93 : decode cX7_newThing 93 = .ok (.iconst 1, 1) := by decide +kernel
theorem dX7_newThing_94 : decode cX7_newThing 94 = .ok (.iadd, 1) := by decide +kernel
theorem dX7_newThing_95 : decode cX7_newThing 95 = .ok (.iastore, 1) := by decide +kernel
theorem dX7_newThing_96 : decode cX7_newThing 96 = .ok (.iload 5, 2) := by decide +kernel
theorem dX7_newThing_98 : decode cX7_newThing 98 = .ok (.ireturn, 1) := by decide +kernel
theorem dX7_isPart_0 : decode cX7_isPart 0 = .ok (.iload_n 0, 1) := by decide +kernel
theorem dX7_isPart_1 : decode cX7_isPart 1 = .ok (.tableswitch 57 0 2 #[27, 37, 47], 27) := by decide +kernel
theorem dX7_isPart_28 : decode cX7_isPart 28 = .ok (.iload_n 1, 1) := by decide +kernel
theorem dX7_isPart_29 : decode cX7_isPart 29 = .ok (.i2l, 1) := by decide +kernel
theorem dX7_isPart_30 : decode cX7_isPart 30 = .ok (.lconst 0, 1) := by decide +kernel
theorem dX7_isPart_31 : decode cX7_isPart 31 = .ok (.ldc2_w 76, 3) := by decide +kernel
theorem dX7_isPart_34 : decode cX7_isPart 34 = .ok (.invokestatic 46, 3) := by decide +kernel
theorem dX7_isPart_37 : decode cX7_isPart 37 = .ok (.ireturn, 1) := by decide +kernel
theorem dX7_isPart_38 : decode cX7_isPart 38 = .ok (.iload_n 1, 1) := by decide +kernel
theorem dX7_isPart_39 : decode cX7_isPart 39 = .ok (.i2l, 1) := by decide +kernel
theorem dX7_isPart_40 : decode cX7_isPart 40 = .ok (.lconst 1, 1) := by decide +kernel
theorem dX7_isPart_41 : decode cX7_isPart 41 = .ok (.ldc2_w 78, 3) := by decide +kernel
theorem dX7_isPart_44 : decode cX7_isPart 44 = .ok (.invokestatic 46, 3) := by decide +kernel
theorem dX7_isPart_47 : decode cX7_isPart 47 = .ok (.ireturn, 1) := by decide +kernel
theorem dX7_isPart_48 : decode cX7_isPart 48 = .ok (.iload_n 1, 1) := by decide +kernel
theorem dX7_isPart_49 : decode cX7_isPart 49 = .ok (.i2l, 1) := by decide +kernel
theorem dX7_isPart_50 : decode cX7_isPart 50 = .ok (.lconst 1, 1) := by decide +kernel
theorem dX7_isPart_51 : decode cX7_isPart 51 = .ok (.ldc2_w 57, 3) := by decide +kernel
theorem dX7_isPart_54 : decode cX7_isPart 54 = .ok (.invokestatic 46, 3) := by decide +kernel
theorem dX7_isPart_57 : decode cX7_isPart 57 = .ok (.ireturn, 1) := by decide +kernel
theorem dX7_isPart_58 : decode cX7_isPart 58 = .ok (.iload_n 0, 1) := by decide +kernel
theorem dX7_isPart_59 : decode cX7_isPart 59 = .ok (.iconst 3, 1) := by decide +kernel
theorem dX7_isPart_60 : decode cX7_isPart 60 = .ok (.if_icmp .ne 19, 3) := by decide +kernel
theorem dX7_isPart_63 : decode cX7_isPart 63 = .ok (.iload_n 1, 1) := by decide +kernel
theorem dX7_isPart_64 : decode cX7_isPart 64 = .ok (.i2l, 1) := by decide +kernel
theorem dX7_isPart_65 : decode cX7_isPart 65 = .ok (.lconst 0, 1) := by decide +kernel
theorem dX7_isPart_66 : decode cX7_isPart 66 = .ok (.ldc2_w 57, 3) := by decide +kernel
theorem dX7_isPart_69 : decode cX7_isPart 69 = .ok (.invokestatic 46, 3) := by decide +kernel
theorem dX7_isPart_72 : decode cX7_isPart 72 = .ok (.ifCond .eq 7, 3) := by decide +kernel
theorem dX7_isPart_75 : decode cX7_isPart 75 = .ok (.iconst 1, 1) := by decide +kernel
theorem dX7_isPart_76 : decode cX7_isPart 76 = .ok (.goto 4, 3) := by decide +kernel
theorem dX7_isPart_79 : decode cX7_isPart 79 = .ok (.iconst 0, 1) := by decide +kernel
theorem dX7_isPart_80 : decode cX7_isPart 80 = .ok (.ireturn, 1) := by decide +kernel
theorem dX7_thing_0 : decode cX7_thing 0 = .ok (.iconst 0, 1) := by decide +kernel
theorem dX7_thing_1 : decode cX7_thing 1 = .ok (.iload_n 1, 1) := by decide +kernel
theorem dX7_thing_2 : decode cX7_thing 2 = .ok (.invokestatic 80, 3) := by decide +kernel
theorem dX7_thing_5 : decode cX7_thing 5 = .ok (.ifCond .eq 11, 3) := by decide +kernel
theorem dX7_thing_8 : decode cX7_thing 8 = .ok (.iconst 1, 1) := by decide +kernel
theorem dX7_thing_9 : decode cX7_thing 9 = .ok (.iload_n 2, 1) := by decide +kernel
theorem dX7_thing_10 : decode cX7_thing 10 = .ok (.invokestatic 80, 3) := by decide +kernel
theorem dX7_thing_13 : decode cX7_thing 13 = .ok (.ifCond .ne 10, 3) := by decide +kernel
theorem dX7_thing_16 : decode cX7_thing 16 = .ok (.aload_n 0, 1) := by decide +kernel
theorem dX7_thing_17 : decode cX7_thing 17 = .ok (.ldc 43, 2) := by decide +kernel
theorem dX7_thing_19 : decode cX7_thing 19 = .ok (.invokevirtual 59, 3) := by decide +kernel
theorem dX7_thing_22 : decode cX7_thing 22 = .ok (.ireturn, 1) := by decide +kernel
theorem dX7_thing_23 : decode cX7_thing 23 = .ok (.aload_n 0, 1) := by decide +kernel
theorem dX7_thing_24 : decode cX7_thing 24 = .ok (.getfield 7, 3) := by decide +kernel
theorem dX7_thing_27 : decode cX7_thing 27 = .ok (.iconst 1, 1) := by decide +kernel
theorem dX7_thing_28 : decode cX7_thing 28 = .ok (.iaload, 1) := by decide +kernel
theorem dX7_thing_29 : decode cX7_thing 29 = .ok (.bipush 10, 2) := by decide +kernel
theorem dX7_thing_31 : decode cX7_thing 31 = .ok (.if_icmp .ne 12, 3) := by decide +kernel
theorem dX7_thing_34 : decode cX7_thing 34 = .ok (.aload_n 0, 1) := by decide +kernel
theorem dX7_thing_35 : decode cX7_thing 35 = .ok (.ldc 84, 2) := by decide +kernel
theorem dX7_thing_37 : decode cX7_thing 37 = .ok (.invokevirtual 59, 3) := by decide +kernel
theorem dX7_thing_40 : decode cX7_thing 40 = .ok (.goto 11, 3) := by decide +kernel
theorem dX7_thing_43 : decode cX7_thing 43 = .ok (.aload_n 0, 1) := by decide +kernel
theorem dX7_thing_44 : decode cX7_thing 44 = .ok (.iload_n 1, 1) := by decide +kernel
theorem dX7_thing_45 : decode cX7_thing 45 = .ok (.iload_n 2, 1) := by decide +kernel
theorem dX7_thing_46 : decode cX7_thing 46 = .ok (.iconst 4, 1) := by decide +kernel
theorem dX7_thing_47 : decode cX7_thing 47 = .ok (.iconst 0, 1) := by decide +kernel
theorem dX7_thing_48 : decode cX7_thing 48 = .ok (.invokevirtual 85, 3) := by decide +kernel
theorem dX7_thing_51 : decode cX7_thing 51 = .ok (.ireturn, 1) := by decide +kernel
theorem dX7_gain_0 : decode cX7_gain 0 = .ok (.aload_n 0, 1) := by decide +kernel
theorem dX7_gain_1 : decode cX7_gain 1 = .ok (.getfield 7, 3) := by decide +kernel
theorem dX7_gain_4 : decode cX7_gain 4 = .ok (.iconst 5, 1) := by decide +kernel
theorem dX7_gain_5 : decode cX7_gain 5 = .ok (.iload_n 2, 1) := by decide +kernel
theorem dX7_gain_6 : decode cX7_gain 6 = .ok (.iadd, 1) := by decide +kernel
theorem dX7_gain_7 : decode cX7_gain 7 = .ok (.iaload, 1) := by decide +kernel
theorem dX7_gain_8 : decode cX7_gain 8 = .ok (.aload_n 0, 1) := by decide +kernel
theorem dX7_gain_9 : decode cX7_gain 9 = .ok (.iload_n 1, 1) := by decide +kernel
theorem dX7_gain_10 : decode cX7_gain 10 = .ok (.iconst 2, 1) := by decide +kernel
theorem dX7_gain_11 : decode cX7_gain 11 = .ok (.invokevirtual 89, 3) := by decide +kernel
theorem dX7_gain_14 : decode cX7_gain 14 = .ok (.imul, 1) := by decide +kernel
theorem dX7_gain_15 : decode cX7_gain 15 = .ok (.istore_n 3, 1) := by decide +kernel
theorem dX7_gain_16 : decode cX7_gain 16 = .ok (.aload_n 0, 1) := by decide +kernel
theorem dX7_gain_17 : decode cX7_gain 17 = .ok (.iload_n 1, 1) := by decide +kernel
theorem dX7_gain_18 : decode cX7_gain 18 = .ok (.iconst 0, 1) := by decide +kernel
theorem dX7_gain_19 : decode cX7_gain 19 = .ok (.invokevirtual 89, 3) := by decide +kernel
theorem dX7_gain_22 : decode cX7_gain 22 = .ok (.tableswitch 66 1 6 #[38, 66, 42, 66, 38, 56], 38) := by decide +kernel
theorem dX7_gain_60 : decode cX7_gain 60 = .ok (.iload_n 3, 1) := by decide +kernel
theorem dX7_gain_61 : decode cX7_gain 61 = .ok (.iconst 2, 1) := by decide +kernel
theorem dX7_gain_62 : decode cX7_gain 62 = .ok (.iadd, 1) := by decide +kernel
theorem dX7_gain_63 : decode cX7_gain 63 = .ok (.ireturn, 1) := by decide +kernel
theorem dX7_gain_64 : decode cX7_gain 64 = .ok (.iload_n 3, 1) := by decide +kernel
theorem dX7_gain_65 : decode cX7_gain 65 = .ok (.iconst 2, 1) := by decide +kernel
theorem dX7_gain_66 : decode cX7_gain 66 = .ok (.iadd, 1) := by decide +kernel
theorem dX7_gain_67 : decode cX7_gain 67 = .ok (.aload_n 0, 1) := by decide +kernel
theorem dX7_gain_68 : decode cX7_gain 68 = .ok (.iload_n 1, 1) := by decide +kernel
theorem dX7_gain_69 : decode cX7_gain 69 = .ok (.iconst 1, 1) := by decide +kernel
theorem dX7_gain_70 : decode cX7_gain 70 = .ok (.invokevirtual 89, 3) := by decide +kernel
theorem dX7_gain_73 : decode cX7_gain 73 = .ok (.bipush 10, 2) := by decide +kernel
theorem dX7_gain_75 : decode cX7_gain 75 = .ok (.idiv, 1) := by decide +kernel
theorem dX7_gain_76 : decode cX7_gain 76 = .ok (.iadd, 1) := by decide +kernel
theorem dX7_gain_77 : decode cX7_gain 77 = .ok (.ireturn, 1) := by decide +kernel
theorem dX7_gain_78 : decode cX7_gain 78 = .ok (.iload_n 3, 1) := by decide +kernel
theorem dX7_gain_79 : decode cX7_gain 79 = .ok (.ifCond .le 7, 3) := by decide +kernel
theorem dX7_gain_82 : decode cX7_gain 82 = .ok (.iconst 0, 1) := by decide +kernel
theorem dX7_gain_83 : decode cX7_gain 83 = .ok (.goto 4, 3) := by decide +kernel
theorem dX7_gain_86 : decode cX7_gain 86 = .ok (.iload_n 3, 1) := by decide +kernel
theorem dX7_gain_87 : decode cX7_gain 87 = .ok (.ireturn, 1) := by decide +kernel
theorem dX7_gain_88 : decode cX7_gain 88 = .ok (.iload_n 3, 1) := by decide +kernel
theorem dX7_gain_89 : decode cX7_gain 89 = .ok (.ireturn, 1) := by decide +kernel
theorem dX7_drag_0 : decode cX7_drag 0 = .ok (.aload_n 0, 1) := by decide +kernel
theorem dX7_drag_1 : decode cX7_drag 1 = .ok (.getfield 7, 3) := by decide +kernel
theorem dX7_drag_4 : decode cX7_drag 4 = .ok (.bipush 36, 2) := by decide +kernel
theorem dX7_drag_6 : decode cX7_drag 6 = .ok (.iload_n 2, 1) := by decide +kernel
theorem dX7_drag_7 : decode cX7_drag 7 = .ok (.iadd, 1) := by decide +kernel
theorem dX7_drag_8 : decode cX7_drag 8 = .ok (.iaload, 1) := by decide +kernel
theorem dX7_drag_9 : decode cX7_drag 9 = .ok (.istore_n 3, 1) := by decide +kernel
theorem dX7_drag_10 : decode cX7_drag 10 = .ok (.iload_n 3, 1) := by decide +kernel
theorem dX7_drag_11 : decode cX7_drag 11 = .ok (.iconst 1, 1) := by decide +kernel
theorem dX7_drag_12 : decode cX7_drag 12 = .ok (.if_icmp .ne 8, 3) := by decide +kernel
theorem dX7_drag_15 : decode cX7_drag 15 = .ok (.bipush 12, 2) := by decide +kernel
theorem dX7_drag_17 : decode cX7_drag 17 = .ok (.goto 23, 3) := by decide +kernel
theorem dX7_drag_20 : decode cX7_drag 20 = .ok (.iload_n 3, 1) := by decide +kernel
theorem dX7_drag_21 : decode cX7_drag 21 = .ok (.iconst 2, 1) := by decide +kernel
theorem dX7_drag_22 : decode cX7_drag 22 = .ok (.if_icmp .ne 8, 3) := by decide +kernel
theorem dX7_drag_25 : decode cX7_drag 25 = .ok (.bipush 30, 2) := by decide +kernel
theorem dX7_drag_27 : decode cX7_drag 27 = .ok (.goto 13, 3) := by decide +kernel
theorem dX7_drag_30 : decode cX7_drag 30 = .ok (.iload_n 3, 1) := by decide +kernel
theorem dX7_drag_31 : decode cX7_drag 31 = .ok (.iconst 3, 1) := by decide +kernel
theorem dX7_drag_32 : decode cX7_drag 32 = .ok (.if_icmp .ne 7, 3) := by decide +kernel
theorem dX7_drag_35 : decode cX7_drag 35 = .ok (.iconst 4, 1) := by decide +kernel
theorem dX7_drag_36 : decode cX7_drag 36 = .ok (.goto 4, 3) := by decide +kernel
theorem dX7_drag_39 : decode cX7_drag 39 = .ok (.iconst 2, 1) := by decide +kernel
theorem dX7_drag_40 : decode cX7_drag 40 = .ok (.istore 4, 2) := by decide +kernel
theorem dX7_drag_42 : decode cX7_drag 42 = .ok (.aload_n 0, 1) := by decide +kernel
theorem dX7_drag_43 : decode cX7_drag 43 = .ok (.iload_n 1, 1) := by decide +kernel
theorem dX7_drag_44 : decode cX7_drag 44 = .ok (.iconst 0, 1) := by decide +kernel
theorem dX7_drag_45 : decode cX7_drag 45 = .ok (.invokevirtual 89, 3) := by decide +kernel
theorem dX7_drag_48 : decode cX7_drag 48 = .ok (.tableswitch 69 2 5 #[32, 69, 42, 64], 32) := by decide +kernel
theorem dX7_drag_80 : decode cX7_drag 80 = .ok (.iload 4, 2) := by decide +kernel
theorem dX7_drag_82 : decode cX7_drag 82 = .ok (.aload_n 0, 1) := by decide +kernel
theorem dX7_drag_83 : decode cX7_drag 83 = .ok (.iload_n 1, 1) := by decide +kernel
theorem dX7_drag_84 : decode cX7_drag 84 = .ok (.iconst 3, 1) := by decide +kernel
theorem dX7_drag_85 : decode cX7_drag 85 = .ok (.invokevirtual 89, 3) := by decide +kernel
theorem dX7_drag_88 : decode cX7_drag 88 = .ok (.iadd, 1) := by decide +kernel
theorem dX7_drag_89 : decode cX7_drag 89 = .ok (.ireturn, 1) := by decide +kernel
theorem dX7_drag_90 : decode cX7_drag 90 = .ok (.iload 4, 2) := by decide +kernel
theorem dX7_drag_92 : decode cX7_drag 92 = .ok (.aload_n 0, 1) := by decide +kernel
theorem dX7_drag_93 : decode cX7_drag 93 = .ok (.iload_n 1, 1) := by decide +kernel
theorem dX7_drag_94 : decode cX7_drag 94 = .ok (.iconst 3, 1) := by decide +kernel
theorem dX7_drag_95 : decode cX7_drag 95 = .ok (.invokevirtual 89, 3) := by decide +kernel
theorem dX7_drag_98 : decode cX7_drag 98 = .ok (.iadd, 1) := by decide +kernel
theorem dX7_drag_99 : decode cX7_drag 99 = .ok (.iload_n 3, 1) := by decide +kernel
theorem dX7_drag_100 : decode cX7_drag 100 = .ok (.iconst 2, 1) := by decide +kernel
theorem dX7_drag_101 : decode cX7_drag 101 = .ok (.if_icmp .ne 8, 3) := by decide +kernel
theorem dX7_drag_104 : decode cX7_drag 104 = .ok (.bipush 10, 2) := by decide +kernel
theorem dX7_drag_106 : decode cX7_drag 106 = .ok (.goto 4, 3) := by decide +kernel
theorem dX7_drag_109 : decode cX7_drag 109 = .ok (.iconst 0, 1) := by decide +kernel
theorem dX7_drag_110 : decode cX7_drag 110 = .ok (.isub, 1) := by decide +kernel
theorem dX7_drag_111 : decode cX7_drag 111 = .ok (.ireturn, 1) := by decide +kernel
theorem dX7_drag_112 : decode cX7_drag 112 = .ok (.iload 4, 2) := by decide +kernel
theorem dX7_drag_114 : decode cX7_drag 114 = .ok (.iconst 2, 1) := by decide +kernel
theorem dX7_drag_115 : decode cX7_drag 115 = .ok (.idiv, 1) := by decide +kernel
theorem dX7_drag_116 : decode cX7_drag 116 = .ok (.ireturn, 1) := by decide +kernel
theorem dX7_drag_117 : decode cX7_drag 117 = .ok (.iload 4, 2) := by decide +kernel
theorem dX7_drag_119 : decode cX7_drag 119 = .ok (.ireturn, 1) := by decide +kernel
theorem dX7_top_0 : decode cX7_top 0 = .ok (.aload_n 0, 1) := by decide +kernel
theorem dX7_top_1 : decode cX7_top 1 = .ok (.iload_n 1, 1) := by decide +kernel
theorem dX7_top_2 : decode cX7_top 2 = .ok (.iconst 0, 1) := by decide +kernel
theorem dX7_top_3 : decode cX7_top 3 = .ok (.invokevirtual 89, 3) := by decide +kernel
theorem dX7_top_6 : decode cX7_top 6 = .ok (.istore_n 2, 1) := by decide +kernel
theorem dX7_top_7 : decode cX7_top 7 = .ok (.iload_n 2, 1) := by decide +kernel
theorem dX7_top_8 : decode cX7_top 8 = .ok (.iconst 1, 1) := by decide +kernel
theorem dX7_top_9 : decode cX7_top 9 = .ok (.if_icmp .eq 8, 3) := by decide +kernel
theorem dX7_top_12 : decode cX7_top 12 = .ok (.iload_n 2, 1) := by decide +kernel
theorem dX7_top_13 : decode cX7_top 13 = .ok (.iconst 5, 1) := by decide +kernel
theorem dX7_top_14 : decode cX7_top 14 = .ok (.if_icmp .ne 8, 3) := by decide +kernel
theorem dX7_top_17 : decode cX7_top 17 = .ok (.bipush 30, 2) := by decide +kernel
theorem dX7_top_19 : decode cX7_top 19 = .ok (.goto 39, 3) := by decide +kernel
theorem dX7_top_22 : decode cX7_top 22 = .ok (.iload_n 2, 1) := by decide +kernel
theorem dX7_top_23 : decode cX7_top 23 = .ok (.iconst 3, 1) := by decide +kernel
theorem dX7_top_24 : decode cX7_top 24 = .ok (.if_icmp .ne 8, 3) := by decide +kernel
theorem dX7_top_27 : decode cX7_top 27 = .ok (.bipush 55, 2) := by decide +kernel
theorem dX7_top_29 : decode cX7_top 29 = .ok (.goto 29, 3) := by decide +kernel
theorem dX7_top_32 : decode cX7_top 32 = .ok (.iload_n 2, 1) := by decide +kernel
theorem dX7_top_33 : decode cX7_top 33 = .ok (.iconst 2, 1) := by decide +kernel
theorem dX7_top_34 : decode cX7_top 34 = .ok (.if_icmp .eq 8, 3) := by decide +kernel
theorem dX7_top_37 : decode cX7_top 37 = .ok (.iload_n 2, 1) := by decide +kernel
theorem dX7_top_38 : decode cX7_top 38 = .ok (.iconst 4, 1) := by decide +kernel
theorem dX7_top_39 : decode cX7_top 39 = .ok (.if_icmp .ne 17, 3) := by decide +kernel
theorem dX7_top_42 : decode cX7_top 42 = .ok (.bipush 40, 2) := by decide +kernel
theorem dX7_top_44 : decode cX7_top 44 = .ok (.iconst 3, 1) := by decide +kernel
theorem dX7_top_45 : decode cX7_top 45 = .ok (.aload_n 0, 1) := by decide +kernel
theorem dX7_top_46 : decode cX7_top 46 = .ok (.iload_n 1, 1) := by decide +kernel
theorem dX7_top_47 : decode cX7_top 47 = .ok (.iconst 3, 1) := by decide +kernel
theorem dX7_top_48 : decode cX7_top 48 = .ok (.invokevirtual 89, 3) := by decide +kernel
theorem dX7_top_51 : decode cX7_top 51 = .ok (.imul, 1) := by decide +kernel
theorem dX7_top_52 : decode cX7_top 52 = .ok (.isub, 1) := by decide +kernel
theorem dX7_top_53 : decode cX7_top 53 = .ok (.goto 5, 3) := by decide +kernel
theorem dX7_top_56 : decode cX7_top 56 = .ok (.bipush 40, 2) := by decide +kernel
theorem dX7_top_58 : decode cX7_top 58 = .ok (.ireturn, 1) := by decide +kernel
theorem dX7_of_0 : decode cX7_of 0 = .ok (.aload_n 0, 1) := by decide +kernel
theorem dX7_of_1 : decode cX7_of 1 = .ok (.iload_n 1, 1) := by decide +kernel
theorem dX7_of_2 : decode cX7_of 2 = .ok (.invokevirtual 92, 3) := by decide +kernel
theorem dX7_of_5 : decode cX7_of 5 = .ok (.ifCond .eq 15, 3) := by decide +kernel
theorem dX7_of_8 : decode cX7_of 8 = .ok (.iload_n 2, 1) := by decide +kernel
theorem dX7_of_9 : decode cX7_of 9 = .ok (.i2l, 1) := by decide +kernel
theorem dX7_of_10 : decode cX7_of 10 = .ok (.lconst 0, 1) := by decide +kernel
theorem dX7_of_11 : decode cX7_of 11 = .ok (.ldc2_w 95, 3) := by decide +kernel
theorem dX7_of_14 : decode cX7_of 14 = .ok (.invokestatic 46, 3) := by decide +kernel
theorem dX7_of_17 : decode cX7_of 17 = .ok (.ifCond .ne 10, 3) := by decide +kernel
theorem dX7_of_20 : decode cX7_of 20 = .ok (.aload_n 0, 1) := by decide +kernel
theorem dX7_of_21 : decode cX7_of 21 = .ok (.ldc 43, 2) := by decide +kernel
theorem dX7_of_23 : decode cX7_of 23 = .ok (.invokevirtual 59, 3) := by decide +kernel
theorem dX7_of_26 : decode cX7_of 26 = .ok (.ireturn, 1) := by decide +kernel
theorem dX7_of_27 : decode cX7_of 27 = .ok (.iload_n 2, 1) := by decide +kernel
theorem dX7_of_28 : decode cX7_of 28 = .ok (.bipush 8, 2) := by decide +kernel
theorem dX7_of_30 : decode cX7_of 30 = .ok (.if_icmp .ge 12, 3) := by decide +kernel
theorem dX7_of_33 : decode cX7_of 33 = .ok (.aload_n 0, 1) := by decide +kernel
theorem dX7_of_34 : decode cX7_of 34 = .ok (.iload_n 1, 1) := by decide +kernel
theorem dX7_of_35 : decode cX7_of 35 = .ok (.iload_n 2, 1) := by decide +kernel
theorem dX7_of_36 : decode cX7_of 36 = .ok (.invokevirtual 89, 3) := by decide +kernel
theorem dX7_of_39 : decode cX7_of 39 = .ok (.goto 8, 3) := by decide +kernel
theorem dX7_of_42 : decode cX7_of 42 = .ok (.aload_n 0, 1) := by decide +kernel
theorem dX7_of_43 : decode cX7_of 43 = .ok (.iload_n 1, 1) := by decide +kernel
theorem dX7_of_44 : decode cX7_of 44 = .ok (.invokevirtual 97, 3) := by decide +kernel
theorem dX7_of_47 : decode cX7_of 47 = .ok (.ireturn, 1) := by decide +kernel
theorem dX7_change_0 : decode cX7_change 0 = .ok (.aload_n 0, 1) := by decide +kernel
theorem dX7_change_1 : decode cX7_change 1 = .ok (.iload_n 1, 1) := by decide +kernel
theorem dX7_change_2 : decode cX7_change 2 = .ok (.invokevirtual 92, 3) := by decide +kernel
theorem dX7_change_5 : decode cX7_change 5 = .ok (.ifCond .eq 11, 3) := by decide +kernel
theorem dX7_change_8 : decode cX7_change 8 = .ok (.iload_n 2, 1) := by decide +kernel
theorem dX7_change_9 : decode cX7_change 9 = .ok (.iload_n 3, 1) := by decide +kernel
theorem dX7_change_10 : decode cX7_change 10 = .ok (.invokestatic 80, 3) := by decide +kernel
theorem dX7_change_13 : decode cX7_change 13 = .ok (.ifCond .ne 10, 3) := by decide +kernel
theorem dX7_change_16 : decode cX7_change 16 = .ok (.aload_n 0, 1) := by decide +kernel
theorem dX7_change_17 : decode cX7_change 17 = .ok (.ldc 43, 2) := by decide +kernel
theorem dX7_change_19 : decode cX7_change 19 = .ok (.invokevirtual 59, 3) := by decide +kernel
theorem dX7_change_22 : decode cX7_change 22 = .ok (.ireturn, 1) := by decide +kernel
theorem dX7_change_23 : decode cX7_change 23 = .ok (.aload_n 0, 1) := by decide +kernel
theorem dX7_change_24 : decode cX7_change 24 = .ok (.iload_n 1, 1) := by decide +kernel
theorem dX7_change_25 : decode cX7_change 25 = .ok (.iload_n 2, 1) := by decide +kernel
theorem dX7_change_26 : decode cX7_change 26 = .ok (.invokevirtual 89, 3) := by decide +kernel
theorem dX7_change_29 : decode cX7_change 29 = .ok (.istore 4, 2) := by decide +kernel
theorem dX7_change_31 : decode cX7_change 31 = .ok (.aload_n 0, 1) := by decide +kernel
theorem dX7_change_32 : decode cX7_change 32 = .ok (.getfield 7, 3) := by decide +kernel
theorem dX7_change_35 : decode cX7_change 35 = .ok (.iload_n 1, 1) := by decide +kernel
theorem dX7_change_36 : decode cX7_change 36 = .ok (.iload_n 2, 1) := by decide +kernel
theorem dX7_change_37 : decode cX7_change 37 = .ok (.invokestatic 72, 3) := by decide +kernel
theorem dX7_change_40 : decode cX7_change 40 = .ok (.iload_n 3, 1) := by decide +kernel
theorem dX7_change_41 : decode cX7_change 41 = .ok (.iastore, 1) := by decide +kernel
theorem dX7_change_42 : decode cX7_change 42 = .ok (.iload 4, 2) := by decide +kernel
theorem dX7_change_44 : decode cX7_change 44 = .ok (.ireturn, 1) := by decide +kernel
theorem dX7_told_0 : decode cX7_told 0 = .ok (.aload_n 0, 1) := by decide +kernel
theorem dX7_told_1 : decode cX7_told 1 = .ok (.iload_n 1, 1) := by decide +kernel
theorem dX7_told_2 : decode cX7_told 2 = .ok (.invokevirtual 92, 3) := by decide +kernel
theorem dX7_told_5 : decode cX7_told 5 = .ok (.ifCond .eq 20, 3) := by decide +kernel
theorem dX7_told_8 : decode cX7_told 8 = .ok (.iload_n 2, 1) := by decide +kernel
theorem dX7_told_9 : decode cX7_told 9 = .ok (.i2l, 1) := by decide +kernel
theorem dX7_told_10 : decode cX7_told 10 = .ok (.lconst 0, 1) := by decide +kernel
theorem dX7_told_11 : decode cX7_told 11 = .ok (.lconst 1, 1) := by decide +kernel
theorem dX7_told_12 : decode cX7_told 12 = .ok (.invokestatic 46, 3) := by decide +kernel
theorem dX7_told_15 : decode cX7_told 15 = .ok (.ifCond .eq 10, 3) := by decide +kernel
theorem dX7_told_18 : decode cX7_told 18 = .ok (.iload_n 3, 1) := by decide +kernel
theorem dX7_told_19 : decode cX7_told 19 = .ok (.invokestatic 51, 3) := by decide +kernel
theorem dX7_told_22 : decode cX7_told 22 = .ok (.ifCond .ne 10, 3) := by decide +kernel
theorem dX7_told_25 : decode cX7_told 25 = .ok (.aload_n 0, 1) := by decide +kernel
theorem dX7_told_26 : decode cX7_told 26 = .ok (.ldc 43, 2) := by decide +kernel
theorem dX7_told_28 : decode cX7_told 28 = .ok (.invokevirtual 59, 3) := by decide +kernel
theorem dX7_told_31 : decode cX7_told 31 = .ok (.ireturn, 1) := by decide +kernel
theorem dX7_told_32 : decode cX7_told 32 = .ok (.iload_n 2, 1) := by decide +kernel
theorem dX7_told_33 : decode cX7_told 33 = .ok (.ifCond .ne 12, 3) := by decide +kernel
theorem dX7_told_36 : decode cX7_told 36 = .ok (.aload_n 0, 1) := by decide +kernel
theorem dX7_told_37 : decode cX7_told 37 = .ok (.iload_n 1, 1) := by decide +kernel
theorem dX7_told_38 : decode cX7_told 38 = .ok (.iload_n 3, 1) := by decide +kernel
theorem dX7_told_39 : decode cX7_told 39 = .ok (.invokevirtual 100, 3) := by decide +kernel
theorem dX7_told_42 : decode cX7_told 42 = .ok (.goto 9, 3) := by decide +kernel
theorem dX7_told_45 : decode cX7_told 45 = .ok (.aload_n 0, 1) := by decide +kernel
theorem dX7_told_46 : decode cX7_told 46 = .ok (.iload_n 1, 1) := by decide +kernel
theorem dX7_told_47 : decode cX7_told 47 = .ok (.iload_n 3, 1) := by decide +kernel
theorem dX7_told_48 : decode cX7_told 48 = .ok (.invokevirtual 103, 3) := by decide +kernel
theorem dX7_told_51 : decode cX7_told 51 = .ok (.ireturn, 1) := by decide +kernel
theorem dX7_isReady_0 : decode cX7_isReady 0 = .ok (.aload_n 0, 1) := by decide +kernel
theorem dX7_isReady_1 : decode cX7_isReady 1 = .ok (.iload_n 1, 1) := by decide +kernel
theorem dX7_isReady_2 : decode cX7_isReady 2 = .ok (.bipush 6, 2) := by decide +kernel
theorem dX7_isReady_4 : decode cX7_isReady 4 = .ok (.invokevirtual 89, 3) := by decide +kernel
theorem dX7_isReady_7 : decode cX7_isReady 7 = .ok (.ifCond .ne 18, 3) := by decide +kernel
theorem dX7_isReady_10 : decode cX7_isReady 10 = .ok (.aload_n 0, 1) := by decide +kernel
theorem dX7_isReady_11 : decode cX7_isReady 11 = .ok (.iload_n 1, 1) := by decide +kernel
theorem dX7_isReady_12 : decode cX7_isReady 12 = .ok (.iconst 4, 1) := by decide +kernel
theorem dX7_isReady_13 : decode cX7_isReady 13 = .ok (.invokevirtual 89, 3) := by decide +kernel
theorem dX7_isReady_16 : decode cX7_isReady 16 = .ok (.bipush 30, 2) := by decide +kernel
theorem dX7_isReady_18 : decode cX7_isReady 18 = .ok (.if_icmp .ge 7, 3) := by decide +kernel
theorem dX7_isReady_21 : decode cX7_isReady 21 = .ok (.iconst 1, 1) := by decide +kernel
theorem dX7_isReady_22 : decode cX7_isReady 22 = .ok (.goto 4, 3) := by decide +kernel
theorem dX7_isReady_25 : decode cX7_isReady 25 = .ok (.iconst 0, 1) := by decide +kernel
theorem dX7_isReady_26 : decode cX7_isReady 26 = .ok (.ireturn, 1) := by decide +kernel
theorem dX7_letsGo_0 : decode cX7_letsGo 0 = .ok (.aload_n 0, 1) := by decide +kernel
theorem dX7_letsGo_1 : decode cX7_letsGo 1 = .ok (.getfield 7, 3) := by decide +kernel
theorem dX7_letsGo_4 : decode cX7_letsGo 4 = .ok (.iload_n 1, 1) := by decide +kernel
theorem dX7_letsGo_5 : decode cX7_letsGo 5 = .ok (.bipush 6, 2) := by decide +kernel
theorem dX7_letsGo_7 : decode cX7_letsGo 7 = .ok (.invokestatic 72, 3) := by decide +kernel
theorem dX7_letsGo_10 : decode cX7_letsGo 10 = .ok (.iconst 1, 1) := by decide +kernel
theorem dX7_letsGo_11 : decode cX7_letsGo 11 = .ok (.iastore, 1) := by decide +kernel
theorem dX7_letsGo_12 : decode cX7_letsGo 12 = .ok (.aload_n 0, 1) := by decide +kernel
theorem dX7_letsGo_13 : decode cX7_letsGo 13 = .ok (.getfield 7, 3) := by decide +kernel
theorem dX7_letsGo_16 : decode cX7_letsGo 16 = .ok (.iload_n 1, 1) := by decide +kernel
theorem dX7_letsGo_17 : decode cX7_letsGo 17 = .ok (.iconst 5, 1) := by decide +kernel
theorem dX7_letsGo_18 : decode cX7_letsGo 18 = .ok (.invokestatic 72, 3) := by decide +kernel
theorem dX7_letsGo_21 : decode cX7_letsGo 21 = .ok (.iload_n 2, 1) := by decide +kernel
theorem dX7_letsGo_22 : decode cX7_letsGo 22 = .ok (.iastore, 1) := by decide +kernel
theorem dX7_letsGo_23 : decode cX7_letsGo 23 = .ok (.return_, 1) := by decide +kernel
theorem dX7_go_0 : decode cX7_go 0 = .ok (.aload_n 0, 1) := by decide +kernel
theorem dX7_go_1 : decode cX7_go 1 = .ok (.iload_n 1, 1) := by decide +kernel
theorem dX7_go_2 : decode cX7_go 2 = .ok (.invokevirtual 92, 3) := by decide +kernel
theorem dX7_go_5 : decode cX7_go 5 = .ok (.ifCond .ne 10, 3) := by decide +kernel
theorem dX7_go_8 : decode cX7_go 8 = .ok (.aload_n 0, 1) := by decide +kernel
theorem dX7_go_9 : decode cX7_go 9 = .ok (.ldc 43, 2) := by decide +kernel
theorem dX7_go_11 : decode cX7_go 11 = .ok (.invokevirtual 59, 3) := by decide +kernel
theorem dX7_go_14 : decode cX7_go 14 = .ok (.ireturn, 1) := by decide +kernel
theorem dX7_go_15 : decode cX7_go 15 = .ok (.aload_n 0, 1) := by decide +kernel
theorem dX7_go_16 : decode cX7_go 16 = .ok (.iload_n 1, 1) := by decide +kernel
theorem dX7_go_17 : decode cX7_go 17 = .ok (.invokevirtual 106, 3) := by decide +kernel
theorem dX7_go_20 : decode cX7_go 20 = .ok (.ifCond .ne 10, 3) := by decide +kernel
theorem dX7_go_23 : decode cX7_go 23 = .ok (.aload_n 0, 1) := by decide +kernel
theorem dX7_go_24 : decode cX7_go 24 = .ok (.ldc 109, 2) := by decide +kernel
theorem dX7_go_26 : decode cX7_go 26 = .ok (.invokevirtual 59, 3) := by decide +kernel
theorem dX7_go_29 : decode cX7_go 29 = .ok (.ireturn, 1) := by decide +kernel
theorem dX7_go_30 : decode cX7_go 30 = .ok (.aload_n 0, 1) := by decide +kernel
theorem dX7_go_31 : decode cX7_go 31 = .ok (.iload_n 1, 1) := by decide +kernel
theorem dX7_go_32 : decode cX7_go 32 = .ok (.bipush 10, 2) := by decide +kernel
theorem dX7_go_34 : decode cX7_go 34 = .ok (.invokevirtual 110, 3) := by decide +kernel
theorem dX7_go_37 : decode cX7_go 37 = .ok (.aload_n 0, 1) := by decide +kernel
theorem dX7_go_38 : decode cX7_go 38 = .ok (.iload_n 1, 1) := by decide +kernel
theorem dX7_go_39 : decode cX7_go 39 = .ok (.iconst 4, 1) := by decide +kernel
theorem dX7_go_40 : decode cX7_go 40 = .ok (.invokevirtual 89, 3) := by decide +kernel
theorem dX7_go_43 : decode cX7_go 43 = .ok (.ireturn, 1) := by decide +kernel
theorem dX7_put_0 : decode cX7_put 0 = .ok (.aload_n 0, 1) := by decide +kernel
theorem dX7_put_1 : decode cX7_put 1 = .ok (.iload_n 1, 1) := by decide +kernel
theorem dX7_put_2 : decode cX7_put 2 = .ok (.invokevirtual 92, 3) := by decide +kernel
theorem dX7_put_5 : decode cX7_put 5 = .ok (.ifCond .eq 10, 3) := by decide +kernel
theorem dX7_put_8 : decode cX7_put 8 = .ok (.iload_n 2, 1) := by decide +kernel
theorem dX7_put_9 : decode cX7_put 9 = .ok (.invokestatic 51, 3) := by decide +kernel
theorem dX7_put_12 : decode cX7_put 12 = .ok (.ifCond .ne 10, 3) := by decide +kernel
theorem dX7_put_15 : decode cX7_put 15 = .ok (.aload_n 0, 1) := by decide +kernel
theorem dX7_put_16 : decode cX7_put 16 = .ok (.ldc 43, 2) := by decide +kernel
theorem dX7_put_18 : decode cX7_put 18 = .ok (.invokevirtual 59, 3) := by decide +kernel
theorem dX7_put_21 : decode cX7_put 21 = .ok (.ireturn, 1) := by decide +kernel
theorem dX7_put_22 : decode cX7_put 22 = .ok (.aload_n 0, 1) := by decide +kernel
theorem dX7_put_23 : decode cX7_put 23 = .ok (.iload_n 1, 1) := by decide +kernel
theorem dX7_put_24 : decode cX7_put 24 = .ok (.iconst 4, 1) := by decide +kernel
theorem dX7_put_25 : decode cX7_put 25 = .ok (.invokevirtual 89, 3) := by decide +kernel
theorem dX7_put_28 : decode cX7_put 28 = .ok (.istore_n 3, 1) := by decide +kernel
theorem dX7_put_29 : decode cX7_put 29 = .ok (.aload_n 0, 1) := by decide +kernel
theorem dX7_put_30 : decode cX7_put 30 = .ok (.getfield 7, 3) := by decide +kernel
theorem dX7_put_33 : decode cX7_put 33 = .ok (.iload_n 1, 1) := by decide +kernel
theorem dX7_put_34 : decode cX7_put 34 = .ok (.iconst 4, 1) := by decide +kernel
theorem dX7_put_35 : decode cX7_put 35 = .ok (.invokestatic 72, 3) := by decide +kernel
theorem dX7_put_38 : decode cX7_put 38 = .ok (.iload_n 2, 1) := by decide +kernel
theorem dX7_put_39 : decode cX7_put 39 = .ok (.iastore, 1) := by decide +kernel
theorem dX7_put_40 : decode cX7_put 40 = .ok (.aload_n 0, 1) := by decide +kernel
theorem dX7_put_41 : decode cX7_put 41 = .ok (.getfield 7, 3) := by decide +kernel
theorem dX7_put_44 : decode cX7_put 44 = .ok (.iload_n 1, 1) := by decide +kernel
theorem dX7_put_45 : decode cX7_put 45 = .ok (.iconst 5, 1) := by decide +kernel
theorem dX7_put_46 : decode cX7_put 46 = .ok (.invokestatic 72, 3) := by decide +kernel
theorem dX7_put_49 : decode cX7_put 49 = .ok (.iconst 0, 1) := by decide +kernel
theorem dX7_put_50 : decode cX7_put 50 = .ok (.iastore, 1) := by decide +kernel
theorem dX7_put_51 : decode cX7_put 51 = .ok (.aload_n 0, 1) := by decide +kernel
theorem dX7_put_52 : decode cX7_put 52 = .ok (.getfield 7, 3) := by decide +kernel
theorem dX7_put_55 : decode cX7_put 55 = .ok (.iload_n 1, 1) := by decide +kernel
theorem dX7_put_56 : decode cX7_put 56 = .ok (.bipush 6, 2) := by decide +kernel
theorem dX7_put_58 : decode cX7_put 58 = .ok (.invokestatic 72, 3) := by decide +kernel
theorem dX7_put_61 : decode cX7_put 61 = .ok (.iconst 0, 1) := by decide +kernel
theorem dX7_put_62 : decode cX7_put 62 = .ok (.iastore, 1) := by decide +kernel
theorem dX7_put_63 : decode cX7_put 63 = .ok (.iload_n 3, 1) := by decide +kernel
theorem dX7_put_64 : decode cX7_put 64 = .ok (.ireturn, 1) := by decide +kernel
theorem dX7_rolls_0 : decode cX7_rolls 0 = .ok (.aload_n 0, 1) := by decide +kernel
theorem dX7_rolls_1 : decode cX7_rolls 1 = .ok (.iload_n 1, 1) := by decide +kernel
theorem dX7_rolls_2 : decode cX7_rolls 2 = .ok (.iconst 4, 1) := by decide +kernel
theorem dX7_rolls_3 : decode cX7_rolls 3 = .ok (.invokevirtual 89, 3) := by decide +kernel
theorem dX7_rolls_6 : decode cX7_rolls 6 = .ok (.istore_n 3, 1) := by decide +kernel
theorem dX7_rolls_7 : decode cX7_rolls 7 = .ok (.aload_n 0, 1) := by decide +kernel
theorem dX7_rolls_8 : decode cX7_rolls 8 = .ok (.iload_n 1, 1) := by decide +kernel
theorem dX7_rolls_9 : decode cX7_rolls 9 = .ok (.iconst 5, 1) := by decide +kernel
theorem dX7_rolls_10 : decode cX7_rolls 10 = .ok (.invokevirtual 89, 3) := by decide +kernel
theorem dX7_rolls_13 : decode cX7_rolls 13 = .ok (.aload_n 0, 1) := by decide +kernel
theorem dX7_rolls_14 : decode cX7_rolls 14 = .ok (.iload_n 1, 1) := by decide +kernel
theorem dX7_rolls_15 : decode cX7_rolls 15 = .ok (.iload_n 3, 1) := by decide +kernel
theorem dX7_rolls_16 : decode cX7_rolls 16 = .ok (.invokevirtual 100, 3) := by decide +kernel
theorem dX7_rolls_19 : decode cX7_rolls 19 = .ok (.iadd, 1) := by decide +kernel
theorem dX7_rolls_20 : decode cX7_rolls 20 = .ok (.aload_n 0, 1) := by decide +kernel
theorem dX7_rolls_21 : decode cX7_rolls 21 = .ok (.iload_n 1, 1) := by decide +kernel
theorem dX7_rolls_22 : decode cX7_rolls 22 = .ok (.iload_n 3, 1) := by decide +kernel
theorem dX7_rolls_23 : decode cX7_rolls 23 = .ok (.invokevirtual 103, 3) := by decide +kernel
theorem dX7_rolls_26 : decode cX7_rolls 26 = .ok (.isub, 1) := by decide +kernel
theorem dX7_rolls_27 : decode cX7_rolls 27 = .ok (.istore 4, 2) := by decide +kernel
theorem dX7_rolls_29 : decode cX7_rolls 29 = .ok (.iload 4, 2) := by decide +kernel
theorem dX7_rolls_31 : decode cX7_rolls 31 = .ok (.ifCond .ge 7, 3) := by decide +kernel
theorem dX7_rolls_34 : decode cX7_rolls 34 = .ok (.iconst 0, 1) := by decide +kernel
theorem dX7_rolls_35 : decode cX7_rolls 35 = .ok (.goto 17, 3) := by decide +kernel
theorem dX7_rolls_38 : decode cX7_rolls 38 = .ok (.iload 4, 2) := by decide +kernel
theorem dX7_rolls_40 : decode cX7_rolls 40 = .ok (.bipush 99, 2) := by decide +kernel
theorem dX7_rolls_42 : decode cX7_rolls 42 = .ok (.if_icmp .le 8, 3) := by decide +kernel
theorem dX7_rolls_45 : decode cX7_rolls 45 = .ok (.bipush 99, 2) := by decide +kernel
theorem dX7_rolls_47 : decode cX7_rolls 47 = .ok (.goto 5, 3) := by decide +kernel
theorem dX7_rolls_50 : decode cX7_rolls 50 = .ok (.iload 4, 2) := by decide +kernel
theorem dX7_rolls_52 : decode cX7_rolls 52 = .ok (.istore 4, 2) := by decide +kernel
theorem dX7_rolls_54 : decode cX7_rolls 54 = .ok (.iconst 1, 1) := by decide +kernel
theorem dX7_rolls_55 : decode cX7_rolls 55 = .ok (.istore 5, 2) := by decide +kernel
theorem dX7_rolls_57 : decode cX7_rolls 57 = .ok (.iload 4, 2) := by decide +kernel
theorem dX7_rolls_59 : decode cX7_rolls 59 = .ok (.bipush 10, 2) := by decide +kernel
theorem dX7_rolls_61 : decode cX7_rolls 61 = .ok (.idiv, 1) := by decide +kernel
theorem dX7_rolls_62 : decode cX7_rolls 62 = .ok (.istore 6, 2) := by decide +kernel
theorem dX7_rolls_64 : decode cX7_rolls 64 = .ok (.iload 6, 2) := by decide +kernel
theorem dX7_rolls_66 : decode cX7_rolls 66 = .ok (.ifCond .le 93, 3) := by decide +kernel
theorem dX7_rolls_69 : decode cX7_rolls 69 = .ok (.iload 5, 2) := by decide +kernel
theorem dX7_rolls_71 : decode cX7_rolls 71 = .ok (.iconst 1, 1) := by decide +kernel
theorem dX7_rolls_72 : decode cX7_rolls 72 = .ok (.if_icmp .ne 87, 3) := by decide +kernel
theorem dX7_rolls_75 : decode cX7_rolls 75 = .ok (.iload 4, 2) := by decide +kernel
theorem dX7_rolls_77 : decode cX7_rolls 77 = .ok (.ifCond .le 82, 3) := by decide +kernel
theorem dX7_rolls_80 : decode cX7_rolls 80 = .ok (.aload_n 0, 1) := by decide +kernel
theorem dX7_rolls_81 : decode cX7_rolls 81 = .ok (.getfield 7, 3) := by decide +kernel
theorem dX7_rolls_84 : decode cX7_rolls 84 = .ok (.bipush 36, 2) := by decide +kernel
theorem dX7_rolls_86 : decode cX7_rolls 86 = .ok (.iload_n 3, 1) := by decide +kernel
theorem dX7_rolls_87 : decode cX7_rolls 87 = .ok (.iadd, 1) := by decide +kernel
theorem dX7_rolls_88 : decode cX7_rolls 88 = .ok (.iconst 1, 1) := by decide +kernel
theorem dX7_rolls_89 : decode cX7_rolls 89 = .ok (.iadd, 1) := by decide +kernel
theorem dX7_rolls_90 : decode cX7_rolls 90 = .ok (.iaload, 1) := by decide +kernel
theorem dX7_rolls_91 : decode cX7_rolls 91 = .ok (.iconst 4, 1) := by decide +kernel
theorem dX7_rolls_92 : decode cX7_rolls 92 = .ok (.if_icmp .ne 17, 3) := by decide +kernel
theorem dX7_rolls_95 : decode cX7_rolls 95 = .ok (.aload_n 0, 1) := by decide +kernel
theorem dX7_rolls_96 : decode cX7_rolls 96 = .ok (.iload_n 2, 1) := by decide +kernel
theorem dX7_rolls_97 : decode cX7_rolls 97 = .ok (.invokevirtual 69, 3) := by decide +kernel
theorem dX7_rolls_100 : decode cX7_rolls 100 = .ok (.ifCond .eq 9, 3) := by decide +kernel
theorem dX7_rolls_103 : decode cX7_rolls 103 = .ok (.iconst 0, 1) := by decide +kernel
theorem dX7_rolls_104 : decode cX7_rolls 104 = .ok (.istore 4, 2) := by decide +kernel
theorem dX7_rolls_106 : decode cX7_rolls 106 = .ok (.goto 47, 3) := by decide +kernel
theorem dX7_rolls_109 : decode cX7_rolls 109 = .ok (.iinc 3 1, 3) := by decide +kernel
theorem dX7_rolls_112 : decode cX7_rolls 112 = .ok (.iload_n 3, 1) := by decide +kernel
theorem dX7_rolls_113 : decode cX7_rolls 113 = .ok (.bipush 30, 2) := by decide +kernel
theorem dX7_rolls_115 : decode cX7_rolls 115 = .ok (.if_icmp .ne 12, 3) := by decide +kernel
theorem dX7_rolls_118 : decode cX7_rolls 118 = .ok (.iconst 0, 1) := by decide +kernel
theorem dX7_rolls_119 : decode cX7_rolls 119 = .ok (.istore 4, 2) := by decide +kernel
theorem dX7_rolls_121 : decode cX7_rolls 121 = .ok (.iconst 0, 1) := by decide +kernel
theorem dX7_rolls_122 : decode cX7_rolls 122 = .ok (.istore 5, 2) := by decide +kernel
theorem dX7_rolls_124 : decode cX7_rolls 124 = .ok (.goto 29, 3) := by decide +kernel
theorem dX7_rolls_127 : decode cX7_rolls 127 = .ok (.aload_n 0, 1) := by decide +kernel
theorem dX7_rolls_128 : decode cX7_rolls 128 = .ok (.getfield 7, 3) := by decide +kernel
theorem dX7_rolls_131 : decode cX7_rolls 131 = .ok (.bipush 36, 2) := by decide +kernel
theorem dX7_rolls_133 : decode cX7_rolls 133 = .ok (.iload_n 3, 1) := by decide +kernel
theorem dX7_rolls_134 : decode cX7_rolls 134 = .ok (.iadd, 1) := by decide +kernel
theorem dX7_rolls_135 : decode cX7_rolls 135 = .ok (.iaload, 1) := by decide +kernel
theorem dX7_rolls_136 : decode cX7_rolls 136 = .ok (.iconst 3, 1) := by decide +kernel
theorem dX7_rolls_137 : decode cX7_rolls 137 = .ok (.if_icmp .ne 16, 3) := by decide +kernel
theorem dX7_rolls_140 : decode cX7_rolls 140 = .ok (.iload 4, 2) := by decide +kernel
theorem dX7_rolls_142 : decode cX7_rolls 142 = .ok (.aload_n 0, 1) := by decide +kernel
theorem dX7_rolls_143 : decode cX7_rolls 143 = .ok (.iload_n 1, 1) := by decide +kernel
theorem dX7_rolls_144 : decode cX7_rolls 144 = .ok (.invokevirtual 97, 3) := by decide +kernel
theorem dX7_rolls_147 : decode cX7_rolls 147 = .ok (.if_icmp .le 6, 3) := by decide +kernel
theorem dX7_rolls_150 : decode cX7_rolls 150 = .ok (.iconst 2, 1) := by decide +kernel
theorem dX7_rolls_151 : decode cX7_rolls 151 = .ok (.istore 5, 2) := by decide +kernel
theorem dX7_rolls_153 : decode cX7_rolls 153 = .ok (.iinc 6 (-1), 3) := by decide +kernel
theorem dX7_rolls_156 : decode cX7_rolls 156 = .ok (.goto (-92), 3) := by decide +kernel
theorem dX7_rolls_159 : decode cX7_rolls 159 = .ok (.aload_n 0, 1) := by decide +kernel
theorem dX7_rolls_160 : decode cX7_rolls 160 = .ok (.getfield 7, 3) := by decide +kernel
theorem dX7_rolls_163 : decode cX7_rolls 163 = .ok (.iload_n 1, 1) := by decide +kernel
theorem dX7_rolls_164 : decode cX7_rolls 164 = .ok (.iconst 4, 1) := by decide +kernel
theorem dX7_rolls_165 : decode cX7_rolls 165 = .ok (.invokestatic 72, 3) := by decide +kernel
theorem dX7_rolls_168 : decode cX7_rolls 168 = .ok (.iload_n 3, 1) := by decide +kernel
theorem dX7_rolls_169 : decode cX7_rolls 169 = .ok (.iastore, 1) := by decide +kernel
theorem dX7_rolls_170 : decode cX7_rolls 170 = .ok (.aload_n 0, 1) := by decide +kernel
theorem dX7_rolls_171 : decode cX7_rolls 171 = .ok (.getfield 7, 3) := by decide +kernel
theorem dX7_rolls_174 : decode cX7_rolls 174 = .ok (.iload_n 1, 1) := by decide +kernel
theorem dX7_rolls_175 : decode cX7_rolls 175 = .ok (.iconst 5, 1) := by decide +kernel
theorem dX7_rolls_176 : decode cX7_rolls 176 = .ok (.invokestatic 72, 3) := by decide +kernel
theorem dX7_rolls_179 : decode cX7_rolls 179 = .ok (.iload 4, 2) := by decide +kernel
theorem dX7_rolls_181 : decode cX7_rolls 181 = .ok (.iastore, 1) := by decide +kernel
theorem dX7_rolls_182 : decode cX7_rolls 182 = .ok (.aload_n 0, 1) := by decide +kernel
theorem dX7_rolls_183 : decode cX7_rolls 183 = .ok (.getfield 7, 3) := by decide +kernel
theorem dX7_rolls_186 : decode cX7_rolls 186 = .ok (.iload_n 1, 1) := by decide +kernel
theorem dX7_rolls_187 : decode cX7_rolls 187 = .ok (.bipush 6, 2) := by decide +kernel
theorem dX7_rolls_189 : decode cX7_rolls 189 = .ok (.invokestatic 72, 3) := by decide +kernel
theorem dX7_rolls_192 : decode cX7_rolls 192 = .ok (.iload 5, 2) := by decide +kernel
theorem dX7_rolls_194 : decode cX7_rolls 194 = .ok (.iconst 1, 1) := by decide +kernel
theorem dX7_rolls_195 : decode cX7_rolls 195 = .ok (.if_icmp .ne 12, 3) := by decide +kernel
theorem dX7_rolls_198 : decode cX7_rolls 198 = .ok (.iload 4, 2) := by decide +kernel
theorem dX7_rolls_200 : decode cX7_rolls 200 = .ok (.ifCond .ne 7, 3) := by decide +kernel
theorem dX7_rolls_203 : decode cX7_rolls 203 = .ok (.iconst 0, 1) := by decide +kernel
theorem dX7_rolls_204 : decode cX7_rolls 204 = .ok (.goto 5, 3) := by decide +kernel
theorem dX7_rolls_207 : decode cX7_rolls 207 = .ok (.iload 5, 2) := by decide +kernel
theorem dX7_rolls_209 : decode cX7_rolls 209 = .ok (.iastore, 1) := by decide +kernel
theorem dX7_rolls_210 : decode cX7_rolls 210 = .ok (.return_, 1) := by decide +kernel
theorem dX7_isOnLane_0 : decode cX7_isOnLane 0 = .ok (.aload_n 0, 1) := by decide +kernel
theorem dX7_isOnLane_1 : decode cX7_isOnLane 1 = .ok (.iload_n 1, 1) := by decide +kernel
theorem dX7_isOnLane_2 : decode cX7_isOnLane 2 = .ok (.bipush 6, 2) := by decide +kernel
theorem dX7_isOnLane_4 : decode cX7_isOnLane 4 = .ok (.invokevirtual 89, 3) := by decide +kernel
theorem dX7_isOnLane_7 : decode cX7_isOnLane 7 = .ok (.ifCond .eq 14, 3) := by decide +kernel
theorem dX7_isOnLane_10 : decode cX7_isOnLane 10 = .ok (.aload_n 0, 1) := by decide +kernel
theorem dX7_isOnLane_11 : decode cX7_isOnLane 11 = .ok (.iload_n 1, 1) := by decide +kernel
theorem dX7_isOnLane_12 : decode cX7_isOnLane 12 = .ok (.bipush 6, 2) := by decide +kernel
theorem dX7_isOnLane_14 : decode cX7_isOnLane 14 = .ok (.invokevirtual 89, 3) := by decide +kernel
theorem dX7_isOnLane_17 : decode cX7_isOnLane 17 = .ok (.iconst 1, 1) := by decide +kernel
theorem dX7_isOnLane_18 : decode cX7_isOnLane 18 = .ok (.if_icmp .ne 7, 3) := by decide +kernel
theorem dX7_isOnLane_21 : decode cX7_isOnLane 21 = .ok (.iconst 1, 1) := by decide +kernel
theorem dX7_isOnLane_22 : decode cX7_isOnLane 22 = .ok (.goto 4, 3) := by decide +kernel
theorem dX7_isOnLane_25 : decode cX7_isOnLane 25 = .ok (.iconst 0, 1) := by decide +kernel
theorem dX7_isOnLane_26 : decode cX7_isOnLane 26 = .ok (.ireturn, 1) := by decide +kernel
theorem dX7_meets_0 : decode cX7_meets 0 = .ok (.iconst 0, 1) := by decide +kernel
theorem dX7_meets_1 : decode cX7_meets 1 = .ok (.istore_n 2, 1) := by decide +kernel
theorem dX7_meets_2 : decode cX7_meets 2 = .ok (.iconst 0, 1) := by decide +kernel
theorem dX7_meets_3 : decode cX7_meets 3 = .ok (.istore_n 3, 1) := by decide +kernel
theorem dX7_meets_4 : decode cX7_meets 4 = .ok (.iconst 0, 1) := by decide +kernel
theorem dX7_meets_5 : decode cX7_meets 5 = .ok (.istore 4, 2) := by decide +kernel
theorem dX7_meets_7 : decode cX7_meets 7 = .ok (.iload 4, 2) := by decide +kernel
theorem dX7_meets_9 : decode cX7_meets 9 = .ok (.aload_n 0, 1) := by decide +kernel
theorem dX7_meets_10 : decode cX7_meets 10 = .ok (.getfield 7, 3) := by decide +kernel
theorem dX7_meets_13 : decode cX7_meets 13 = .ok (.iconst 1, 1) := by decide +kernel
theorem dX7_meets_14 : decode cX7_meets 14 = .ok (.iaload, 1) := by decide +kernel
theorem dX7_meets_15 : decode cX7_meets 15 = .ok (.if_icmp .ge 76, 3) := by decide +kernel
theorem dX7_meets_18 : decode cX7_meets 18 = .ok (.aload_n 0, 1) := by decide +kernel
theorem dX7_meets_19 : decode cX7_meets 19 = .ok (.iload 4, 2) := by decide +kernel
theorem dX7_meets_21 : decode cX7_meets 21 = .ok (.invokevirtual 114, 3) := by decide +kernel
theorem dX7_meets_24 : decode cX7_meets 24 = .ok (.ifCond .eq 18, 3) := by decide +kernel
theorem dX7_meets_27 : decode cX7_meets 27 = .ok (.aload_n 0, 1) := by decide +kernel
theorem dX7_meets_28 : decode cX7_meets 28 = .ok (.iload 4, 2) := by decide +kernel
theorem dX7_meets_30 : decode cX7_meets 30 = .ok (.iconst 4, 1) := by decide +kernel
theorem dX7_meets_31 : decode cX7_meets 31 = .ok (.invokevirtual 89, 3) := by decide +kernel
theorem dX7_meets_34 : decode cX7_meets 34 = .ok (.iload_n 1, 1) := by decide +kernel
theorem dX7_meets_35 : decode cX7_meets 35 = .ok (.if_icmp .ne 7, 3) := by decide +kernel
theorem dX7_meets_38 : decode cX7_meets 38 = .ok (.iconst 1, 1) := by decide +kernel
theorem dX7_meets_39 : decode cX7_meets 39 = .ok (.goto 4, 3) := by decide +kernel
theorem dX7_meets_42 : decode cX7_meets 42 = .ok (.iconst 0, 1) := by decide +kernel
theorem dX7_meets_43 : decode cX7_meets 43 = .ok (.istore 5, 2) := by decide +kernel
theorem dX7_meets_45 : decode cX7_meets 45 = .ok (.iload_n 2, 1) := by decide +kernel
theorem dX7_meets_46 : decode cX7_meets 46 = .ok (.iload 5, 2) := by decide +kernel
theorem dX7_meets_48 : decode cX7_meets 48 = .ok (.ifCond .eq 7, 3) := by decide +kernel
theorem dX7_meets_51 : decode cX7_meets 51 = .ok (.iconst 1, 1) := by decide +kernel
theorem dX7_meets_52 : decode cX7_meets 52 = .ok (.goto 4, 3) := by decide +kernel
theorem dX7_meets_55 : decode cX7_meets 55 = .ok (.iconst 0, 1) := by decide +kernel
theorem dX7_meets_56 : decode cX7_meets 56 = .ok (.iadd, 1) := by decide +kernel
theorem dX7_meets_57 : decode cX7_meets 57 = .ok (.istore_n 2, 1) := by decide +kernel
theorem dX7_meets_58 : decode cX7_meets 58 = .ok (.iload_n 3, 1) := by decide +kernel
theorem dX7_meets_59 : decode cX7_meets 59 = .ok (.ifCond .ne 20, 3) := by decide +kernel
theorem dX7_meets_62 : decode cX7_meets 62 = .ok (.iload 5, 2) := by decide +kernel
theorem dX7_meets_64 : decode cX7_meets 64 = .ok (.ifCond .eq 19, 3) := by decide +kernel
theorem dX7_meets_67 : decode cX7_meets 67 = .ok (.aload_n 0, 1) := by decide +kernel
theorem dX7_meets_68 : decode cX7_meets 68 = .ok (.iload 4, 2) := by decide +kernel
theorem dX7_meets_70 : decode cX7_meets 70 = .ok (.bipush 8, 2) := by decide +kernel
theorem dX7_meets_72 : decode cX7_meets 72 = .ok (.invokevirtual 89, 3) := by decide +kernel
theorem dX7_meets_75 : decode cX7_meets 75 = .ok (.iconst 1, 1) := by decide +kernel
theorem dX7_meets_76 : decode cX7_meets 76 = .ok (.if_icmp .ne 7, 3) := by decide +kernel
theorem dX7_meets_79 : decode cX7_meets 79 = .ok (.iconst 1, 1) := by decide +kernel
theorem dX7_meets_80 : decode cX7_meets 80 = .ok (.goto 4, 3) := by decide +kernel
theorem dX7_meets_83 : decode cX7_meets 83 = .ok (.iconst 0, 1) := by decide +kernel
theorem dX7_meets_84 : decode cX7_meets 84 = .ok (.istore_n 3, 1) := by decide +kernel
theorem dX7_meets_85 : decode cX7_meets 85 = .ok (.iinc 4 1, 3) := by decide +kernel
theorem dX7_meets_88 : decode cX7_meets 88 = .ok (.goto (-81), 3) := by decide +kernel
theorem dX7_meets_91 : decode cX7_meets 91 = .ok (.iload_n 2, 1) := by decide +kernel
theorem dX7_meets_92 : decode cX7_meets 92 = .ok (.iconst 2, 1) := by decide +kernel
theorem dX7_meets_93 : decode cX7_meets 93 = .ok (.if_icmp .lt 7, 3) := by decide +kernel
theorem dX7_meets_96 : decode cX7_meets 96 = .ok (.iload_n 3, 1) := by decide +kernel
theorem dX7_meets_97 : decode cX7_meets 97 = .ok (.ifCond .ne 5, 3) := by decide +kernel
theorem dX7_meets_100 : decode cX7_meets 100 = .ok (.iconst 0, 1) := by decide +kernel
theorem dX7_meets_101 : decode cX7_meets 101 = .ok (.ireturn, 1) := by decide +kernel
theorem dX7_meets_102 : decode cX7_meets 102 = .ok (.iconst 0, 1) := by decide +kernel
theorem dX7_meets_103 : decode cX7_meets 103 = .ok (.istore 4, 2) := by decide +kernel
theorem dX7_meets_105 : decode cX7_meets 105 = .ok (.iload 4, 2) := by decide +kernel
theorem dX7_meets_107 : decode cX7_meets 107 = .ok (.aload_n 0, 1) := by decide +kernel
theorem dX7_meets_108 : decode cX7_meets 108 = .ok (.getfield 7, 3) := by decide +kernel
theorem dX7_meets_111 : decode cX7_meets 111 = .ok (.iconst 1, 1) := by decide +kernel
theorem dX7_meets_112 : decode cX7_meets 112 = .ok (.iaload, 1) := by decide +kernel
theorem dX7_meets_113 : decode cX7_meets 113 = .ok (.if_icmp .ge 70, 3) := by decide +kernel
theorem dX7_meets_116 : decode cX7_meets 116 = .ok (.aload_n 0, 1) := by decide +kernel
theorem dX7_meets_117 : decode cX7_meets 117 = .ok (.iload 4, 2) := by decide +kernel
theorem dX7_meets_119 : decode cX7_meets 119 = .ok (.invokevirtual 114, 3) := by decide +kernel
theorem dX7_meets_122 : decode cX7_meets 122 = .ok (.ifCond .eq 55, 3) := by decide +kernel
theorem dX7_meets_125 : decode cX7_meets 125 = .ok (.aload_n 0, 1) := by decide +kernel
theorem dX7_meets_126 : decode cX7_meets 126 = .ok (.iload 4, 2) := by decide +kernel
theorem dX7_meets_128 : decode cX7_meets 128 = .ok (.iconst 4, 1) := by decide +kernel
theorem dX7_meets_129 : decode cX7_meets 129 = .ok (.invokevirtual 89, 3) := by decide +kernel
theorem dX7_meets_132 : decode cX7_meets 132 = .ok (.iload_n 1, 1) := by decide +kernel
theorem dX7_meets_133 : decode cX7_meets 133 = .ok (.if_icmp .ne 44, 3) := by decide +kernel
theorem dX7_meets_136 : decode cX7_meets 136 = .ok (.aload_n 0, 1) := by decide +kernel
theorem dX7_meets_137 : decode cX7_meets 137 = .ok (.getfield 7, 3) := by decide +kernel
theorem dX7_meets_140 : decode cX7_meets 140 = .ok (.iload 4, 2) := by decide +kernel
theorem dX7_meets_142 : decode cX7_meets 142 = .ok (.iconst 5, 1) := by decide +kernel
theorem dX7_meets_143 : decode cX7_meets 143 = .ok (.invokestatic 72, 3) := by decide +kernel
theorem dX7_meets_146 : decode cX7_meets 146 = .ok (.iconst 0, 1) := by decide +kernel
theorem dX7_meets_147 : decode cX7_meets 147 = .ok (.iastore, 1) := by decide +kernel
theorem dX7_meets_148 : decode cX7_meets 148 = .ok (.aload_n 0, 1) := by decide +kernel
theorem dX7_meets_149 : decode cX7_meets 149 = .ok (.getfield 7, 3) := by decide +kernel
theorem dX7_meets_152 : decode cX7_meets 152 = .ok (.iload 4, 2) := by decide +kernel
theorem dX7_meets_154 : decode cX7_meets 154 = .ok (.bipush 6, 2) := by decide +kernel
theorem dX7_meets_156 : decode cX7_meets 156 = .ok (.invokestatic 72, 3) := by decide +kernel
theorem dX7_meets_159 : decode cX7_meets 159 = .ok (.iconst 0, 1) := by decide +kernel
theorem dX7_meets_160 : decode cX7_meets 160 = .ok (.iastore, 1) := by decide +kernel
theorem dX7_meets_161 : decode cX7_meets 161 = .ok (.aload_n 0, 1) := by decide +kernel
theorem dX7_meets_162 : decode cX7_meets 162 = .ok (.getfield 7, 3) := by decide +kernel
theorem dX7_meets_165 : decode cX7_meets 165 = .ok (.iload 4, 2) := by decide +kernel
theorem dX7_meets_167 : decode cX7_meets 167 = .ok (.bipush 7, 2) := by decide +kernel
theorem dX7_meets_169 : decode cX7_meets 169 = .ok (.invokestatic 72, 3) := by decide +kernel
theorem dX7_meets_172 : decode cX7_meets 172 = .ok (.dup2, 1) := by decide +kernel
theorem dX7_meets_173 : decode cX7_meets 173 = .ok (.iaload, 1) := by decide +kernel
theorem dX7_meets_174 : decode cX7_meets 174 = .ok (.iconst 1, 1) := by decide +kernel
theorem dX7_meets_175 : decode cX7_meets 175 = .ok (.iadd, 1) := by decide +kernel
theorem dX7_meets_176 : decode cX7_meets 176 = .ok (.iastore, 1) := by decide +kernel
theorem dX7_meets_177 : decode cX7_meets 177 = .ok (.iinc 4 1, 3) := by decide +kernel
theorem dX7_meets_180 : decode cX7_meets 180 = .ok (.goto (-75), 3) := by decide +kernel
theorem dX7_meets_183 : decode cX7_meets 183 = .ok (.iload_n 2, 1) := by decide +kernel
theorem dX7_meets_184 : decode cX7_meets 184 = .ok (.ireturn, 1) := by decide +kernel
theorem dX7_minute_0 : decode cX7_minute 0 = .ok (.aload_n 0, 1) := by decide +kernel
theorem dX7_minute_1 : decode cX7_minute 1 = .ok (.iconst 0, 1) := by decide +kernel
theorem dX7_minute_2 : decode cX7_minute 2 = .ok (.putfield 117, 3) := by decide +kernel
theorem dX7_minute_5 : decode cX7_minute 5 = .ok (.aload_n 0, 1) := by decide +kernel
theorem dX7_minute_6 : decode cX7_minute 6 = .ok (.iconst 0, 1) := by decide +kernel
theorem dX7_minute_7 : decode cX7_minute 7 = .ok (.putfield 121, 3) := by decide +kernel
theorem dX7_minute_10 : decode cX7_minute 10 = .ok (.iconst 0, 1) := by decide +kernel
theorem dX7_minute_11 : decode cX7_minute 11 = .ok (.istore_n 1, 1) := by decide +kernel
theorem dX7_minute_12 : decode cX7_minute 12 = .ok (.iload_n 1, 1) := by decide +kernel
theorem dX7_minute_13 : decode cX7_minute 13 = .ok (.aload_n 0, 1) := by decide +kernel
theorem dX7_minute_14 : decode cX7_minute 14 = .ok (.getfield 7, 3) := by decide +kernel
theorem dX7_minute_17 : decode cX7_minute 17 = .ok (.iconst 1, 1) := by decide +kernel
theorem dX7_minute_18 : decode cX7_minute 18 = .ok (.iaload, 1) := by decide +kernel
theorem dX7_minute_19 : decode cX7_minute 19 = .ok (.if_icmp .ge 83, 3) := by decide +kernel
theorem dX7_minute_22 : decode cX7_minute 22 = .ok (.aload_n 0, 1) := by decide +kernel
theorem dX7_minute_23 : decode cX7_minute 23 = .ok (.getfield 7, 3) := by decide +kernel
theorem dX7_minute_26 : decode cX7_minute 26 = .ok (.iload_n 1, 1) := by decide +kernel
theorem dX7_minute_27 : decode cX7_minute 27 = .ok (.bipush 8, 2) := by decide +kernel
theorem dX7_minute_29 : decode cX7_minute 29 = .ok (.invokestatic 72, 3) := by decide +kernel
theorem dX7_minute_32 : decode cX7_minute 32 = .ok (.aload_n 0, 1) := by decide +kernel
theorem dX7_minute_33 : decode cX7_minute 33 = .ok (.iload_n 1, 1) := by decide +kernel
theorem dX7_minute_34 : decode cX7_minute 34 = .ok (.bipush 6, 2) := by decide +kernel
theorem dX7_minute_36 : decode cX7_minute 36 = .ok (.invokevirtual 89, 3) := by decide +kernel
theorem dX7_minute_39 : decode cX7_minute 39 = .ok (.iconst 1, 1) := by decide +kernel
theorem dX7_minute_40 : decode cX7_minute 40 = .ok (.if_icmp .ne 7, 3) := by decide +kernel
theorem dX7_minute_43 : decode cX7_minute 43 = .ok (.iconst 1, 1) := by decide +kernel
theorem dX7_minute_44 : decode cX7_minute 44 = .ok (.goto 4, 3) := by decide +kernel
theorem dX7_minute_47 : decode cX7_minute 47 = .ok (.iconst 0, 1) := by decide +kernel
theorem dX7_minute_48 : decode cX7_minute 48 = .ok (.iastore, 1) := by decide +kernel
theorem dX7_minute_49 : decode cX7_minute 49 = .ok (.aload_n 0, 1) := by decide +kernel
theorem dX7_minute_50 : decode cX7_minute 50 = .ok (.iload_n 1, 1) := by decide +kernel
theorem dX7_minute_51 : decode cX7_minute 51 = .ok (.bipush 6, 2) := by decide +kernel
theorem dX7_minute_53 : decode cX7_minute 53 = .ok (.invokevirtual 89, 3) := by decide +kernel
theorem dX7_minute_56 : decode cX7_minute 56 = .ok (.iconst 1, 1) := by decide +kernel
theorem dX7_minute_57 : decode cX7_minute 57 = .ok (.if_icmp .ne 39, 3) := by decide +kernel
theorem dX7_minute_60 : decode cX7_minute 60 = .ok (.aload_n 0, 1) := by decide +kernel
theorem dX7_minute_61 : decode cX7_minute 61 = .ok (.iload_n 1, 1) := by decide +kernel
theorem dX7_minute_62 : decode cX7_minute 62 = .ok (.aload_n 0, 1) := by decide +kernel
theorem dX7_minute_63 : decode cX7_minute 63 = .ok (.getfield 7, 3) := by decide +kernel
theorem dX7_minute_66 : decode cX7_minute 66 = .ok (.iconst 0, 1) := by decide +kernel
theorem dX7_minute_67 : decode cX7_minute 67 = .ok (.iaload, 1) := by decide +kernel
theorem dX7_minute_68 : decode cX7_minute 68 = .ok (.invokevirtual 124, 3) := by decide +kernel
theorem dX7_minute_71 : decode cX7_minute 71 = .ok (.aload_n 0, 1) := by decide +kernel
theorem dX7_minute_72 : decode cX7_minute 72 = .ok (.dup, 1) := by decide +kernel
theorem dX7_minute_73 : decode cX7_minute 73 = .ok (.getfield 121, 3) := by decide +kernel
theorem dX7_minute_76 : decode cX7_minute 76 = .ok (.aload_n 0, 1) := by decide +kernel
theorem dX7_minute_77 : decode cX7_minute 77 = .ok (.iload_n 1, 1) := by decide +kernel
theorem dX7_minute_78 : decode cX7_minute 78 = .ok (.bipush 6, 2) := by decide +kernel
theorem dX7_minute_80 : decode cX7_minute 80 = .ok (.invokevirtual 89, 3) := by decide +kernel
theorem dX7_minute_83 : decode cX7_minute 83 = .ok (.iconst 2, 1) := by decide +kernel
theorem dX7_minute_84 : decode cX7_minute 84 = .ok (.if_icmp .ne 7, 3) := by decide +kernel
theorem dX7_minute_87 : decode cX7_minute 87 = .ok (.iconst 1, 1) := by decide +kernel
theorem dX7_minute_88 : decode cX7_minute 88 = .ok (.goto 4, 3) := by decide +kernel
theorem dX7_minute_91 : decode cX7_minute 91 = .ok (.iconst 0, 1) := by decide +kernel
theorem dX7_minute_92 : decode cX7_minute 92 = .ok (.iadd, 1) := by decide +kernel
theorem dX7_minute_93 : decode cX7_minute 93 = .ok (.putfield 121, 3) := by decide +kernel
theorem dX7_minute_96 : decode cX7_minute 96 = .ok (.iinc 1 1, 3) := by decide +kernel
theorem dX7_minute_99 : decode cX7_minute 99 = .ok (.goto (-87), 3) := by decide +kernel
theorem dX7_minute_102 : decode cX7_minute 102 = .ok (.iconst 1, 1) := by decide +kernel
theorem dX7_minute_103 : decode cX7_minute 103 = .ok (.istore_n 1, 1) := by decide +kernel
theorem dX7_minute_104 : decode cX7_minute 104 = .ok (.iload_n 1, 1) := by decide +kernel
theorem dX7_minute_105 : decode cX7_minute 105 = .ok (.bipush 30, 2) := by decide +kernel
theorem dX7_minute_107 : decode cX7_minute 107 = .ok (.if_icmp .ge 23, 3) := by decide +kernel
theorem dX7_minute_110 : decode cX7_minute 110 = .ok (.aload_n 0, 1) := by decide +kernel
theorem dX7_minute_111 : decode cX7_minute 111 = .ok (.dup, 1) := by decide +kernel
theorem dX7_minute_112 : decode cX7_minute 112 = .ok (.getfield 117, 3) := by decide +kernel
theorem dX7_minute_115 : decode cX7_minute 115 = .ok (.aload_n 0, 1) := by decide +kernel
theorem dX7_minute_116 : decode cX7_minute 116 = .ok (.iload_n 1, 1) := by decide +kernel
theorem dX7_minute_117 : decode cX7_minute 117 = .ok (.invokevirtual 127, 3) := by decide +kernel
theorem dX7_minute_120 : decode cX7_minute 120 = .ok (.iadd, 1) := by decide +kernel
theorem dX7_minute_121 : decode cX7_minute 121 = .ok (.putfield 117, 3) := by decide +kernel
theorem dX7_minute_124 : decode cX7_minute 124 = .ok (.iinc 1 1, 3) := by decide +kernel
theorem dX7_minute_127 : decode cX7_minute 127 = .ok (.goto (-23), 3) := by decide +kernel
theorem dX7_minute_130 : decode cX7_minute 130 = .ok (.iconst 0, 1) := by decide +kernel
theorem dX7_minute_131 : decode cX7_minute 131 = .ok (.istore_n 1, 1) := by decide +kernel
theorem dX7_minute_132 : decode cX7_minute 132 = .ok (.iload_n 1, 1) := by decide +kernel
theorem dX7_minute_133 : decode cX7_minute 133 = .ok (.aload_n 0, 1) := by decide +kernel
theorem dX7_minute_134 : decode cX7_minute 134 = .ok (.getfield 7, 3) := by decide +kernel
theorem dX7_minute_137 : decode cX7_minute 137 = .ok (.iconst 1, 1) := by decide +kernel
theorem dX7_minute_138 : decode cX7_minute 138 = .ok (.iaload, 1) := by decide +kernel
theorem dX7_minute_139 : decode cX7_minute 139 = .ok (.if_icmp .ge 21, 3) := by decide +kernel
theorem dX7_minute_142 : decode cX7_minute 142 = .ok (.aload_n 0, 1) := by decide +kernel
theorem dX7_minute_143 : decode cX7_minute 143 = .ok (.getfield 7, 3) := by decide +kernel
theorem dX7_minute_146 : decode cX7_minute 146 = .ok (.iload_n 1, 1) := by decide +kernel
theorem dX7_minute_147 : decode cX7_minute 147 = .ok (.bipush 8, 2) := by decide +kernel
theorem dX7_minute_149 : decode cX7_minute 149 = .ok (.invokestatic 72, 3) := by decide +kernel
theorem dX7_minute_152 : decode cX7_minute 152 = .ok (.iconst 0, 1) := by decide +kernel
theorem dX7_minute_153 : decode cX7_minute 153 = .ok (.iastore, 1) := by decide +kernel
theorem dX7_minute_154 : decode cX7_minute 154 = .ok (.iinc 1 1, 3) := by decide +kernel
theorem dX7_minute_157 : decode cX7_minute 157 = .ok (.goto (-25), 3) := by decide +kernel
theorem dX7_minute_160 : decode cX7_minute 160 = .ok (.aload_n 0, 1) := by decide +kernel
theorem dX7_minute_161 : decode cX7_minute 161 = .ok (.getfield 7, 3) := by decide +kernel
theorem dX7_minute_164 : decode cX7_minute 164 = .ok (.iconst 0, 1) := by decide +kernel
theorem dX7_minute_165 : decode cX7_minute 165 = .ok (.dup2, 1) := by decide +kernel
theorem dX7_minute_166 : decode cX7_minute 166 = .ok (.iaload, 1) := by decide +kernel
theorem dX7_minute_167 : decode cX7_minute 167 = .ok (.iconst 1, 1) := by decide +kernel
theorem dX7_minute_168 : decode cX7_minute 168 = .ok (.iadd, 1) := by decide +kernel
theorem dX7_minute_169 : decode cX7_minute 169 = .ok (.iastore, 1) := by decide +kernel
theorem dX7_minute_170 : decode cX7_minute 170 = .ok (.return_, 1) := by decide +kernel
theorem dX7_isTooLate_0 : decode cX7_isTooLate 0 = .ok (.aload_n 0, 1) := by decide +kernel
theorem dX7_isTooLate_1 : decode cX7_isTooLate 1 = .ok (.getfield 7, 3) := by decide +kernel
theorem dX7_isTooLate_4 : decode cX7_isTooLate 4 = .ok (.iconst 0, 1) := by decide +kernel
theorem dX7_isTooLate_5 : decode cX7_isTooLate 5 = .ok (.iaload, 1) := by decide +kernel
theorem dX7_isTooLate_6 : decode cX7_isTooLate 6 = .ok (.iload_n 1, 1) := by decide +kernel
theorem dX7_isTooLate_7 : decode cX7_isTooLate 7 = .ok (.iadd, 1) := by decide +kernel
theorem dX7_isTooLate_8 : decode cX7_isTooLate 8 = .ok (.sipush 9999, 3) := by decide +kernel
theorem dX7_isTooLate_11 : decode cX7_isTooLate 11 = .ok (.if_icmp .le 7, 3) := by decide +kernel
theorem dX7_isTooLate_14 : decode cX7_isTooLate 14 = .ok (.iconst 1, 1) := by decide +kernel
theorem dX7_isTooLate_15 : decode cX7_isTooLate 15 = .ok (.goto 4, 3) := by decide +kernel
theorem dX7_isTooLate_18 : decode cX7_isTooLate 18 = .ok (.iconst 0, 1) := by decide +kernel
theorem dX7_isTooLate_19 : decode cX7_isTooLate 19 = .ok (.ireturn, 1) := by decide +kernel
theorem dX7_minutes_0 : decode cX7_minutes 0 = .ok (.iload_n 1, 1) := by decide +kernel
theorem dX7_minutes_1 : decode cX7_minutes 1 = .ok (.i2l, 1) := by decide +kernel
theorem dX7_minutes_2 : decode cX7_minutes 2 = .ok (.lconst 1, 1) := by decide +kernel
theorem dX7_minutes_3 : decode cX7_minutes 3 = .ok (.ldc2_w 130, 3) := by decide +kernel
theorem dX7_minutes_6 : decode cX7_minutes 6 = .ok (.invokestatic 46, 3) := by decide +kernel
theorem dX7_minutes_9 : decode cX7_minutes 9 = .ok (.ifCond .ne 10, 3) := by decide +kernel
theorem dX7_minutes_12 : decode cX7_minutes 12 = .ok (.aload_n 0, 1) := by decide +kernel
theorem dX7_minutes_13 : decode cX7_minutes 13 = .ok (.ldc 43, 2) := by decide +kernel
theorem dX7_minutes_15 : decode cX7_minutes 15 = .ok (.invokevirtual 59, 3) := by decide +kernel
theorem dX7_minutes_18 : decode cX7_minutes 18 = .ok (.ireturn, 1) := by decide +kernel
theorem dX7_minutes_19 : decode cX7_minutes 19 = .ok (.aload_n 0, 1) := by decide +kernel
theorem dX7_minutes_20 : decode cX7_minutes 20 = .ok (.iload_n 1, 1) := by decide +kernel
theorem dX7_minutes_21 : decode cX7_minutes 21 = .ok (.invokevirtual 132, 3) := by decide +kernel
theorem dX7_minutes_24 : decode cX7_minutes 24 = .ok (.ifCond .eq 10, 3) := by decide +kernel
theorem dX7_minutes_27 : decode cX7_minutes 27 = .ok (.aload_n 0, 1) := by decide +kernel
theorem dX7_minutes_28 : decode cX7_minutes 28 = .ok (.ldc 109, 2) := by decide +kernel
theorem dX7_minutes_30 : decode cX7_minutes 30 = .ok (.invokevirtual 59, 3) := by decide +kernel
theorem dX7_minutes_33 : decode cX7_minutes 33 = .ok (.ireturn, 1) := by decide +kernel
theorem dX7_minutes_34 : decode cX7_minutes 34 = .ok (.iconst 0, 1) := by decide +kernel
theorem dX7_minutes_35 : decode cX7_minutes 35 = .ok (.istore_n 2, 1) := by decide +kernel
theorem dX7_minutes_36 : decode cX7_minutes 36 = .ok (.iconst 0, 1) := by decide +kernel
theorem dX7_minutes_37 : decode cX7_minutes 37 = .ok (.istore_n 3, 1) := by decide +kernel
theorem dX7_minutes_38 : decode cX7_minutes 38 = .ok (.iload_n 3, 1) := by decide +kernel
theorem dX7_minutes_39 : decode cX7_minutes 39 = .ok (.iload_n 1, 1) := by decide +kernel
theorem dX7_minutes_40 : decode cX7_minutes 40 = .ok (.if_icmp .ge 25, 3) := by decide +kernel
theorem dX7_minutes_43 : decode cX7_minutes 43 = .ok (.aload_n 0, 1) := by decide +kernel
theorem dX7_minutes_44 : decode cX7_minutes 44 = .ok (.invokevirtual 135, 3) := by decide +kernel
theorem dX7_minutes_47 : decode cX7_minutes 47 = .ok (.iload_n 2, 1) := by decide +kernel
theorem dX7_minutes_48 : decode cX7_minutes 48 = .ok (.aload_n 0, 1) := by decide +kernel
theorem dX7_minutes_49 : decode cX7_minutes 49 = .ok (.getfield 117, 3) := by decide +kernel
theorem dX7_minutes_52 : decode cX7_minutes 52 = .ok (.aload_n 0, 1) := by decide +kernel
theorem dX7_minutes_53 : decode cX7_minutes 53 = .ok (.getfield 121, 3) := by decide +kernel
theorem dX7_minutes_56 : decode cX7_minutes 56 = .ok (.iadd, 1) := by decide +kernel
theorem dX7_minutes_57 : decode cX7_minutes 57 = .ok (.iadd, 1) := by decide +kernel
theorem dX7_minutes_58 : decode cX7_minutes 58 = .ok (.istore_n 2, 1) := by decide +kernel
theorem dX7_minutes_59 : decode cX7_minutes 59 = .ok (.iinc 3 1, 3) := by decide +kernel
theorem dX7_minutes_62 : decode cX7_minutes 62 = .ok (.goto (-24), 3) := by decide +kernel
theorem dX7_minutes_65 : decode cX7_minutes 65 = .ok (.iload_n 2, 1) := by decide +kernel
theorem dX7_minutes_66 : decode cX7_minutes 66 = .ok (.ireturn, 1) := by decide +kernel
theorem dX7_areIn_0 : decode cX7_areIn 0 = .ok (.iconst 0, 1) := by decide +kernel
theorem dX7_areIn_1 : decode cX7_areIn 1 = .ok (.istore_n 2, 1) := by decide +kernel
theorem dX7_areIn_2 : decode cX7_areIn 2 = .ok (.iconst 0, 1) := by decide +kernel
theorem dX7_areIn_3 : decode cX7_areIn 3 = .ok (.istore_n 3, 1) := by decide +kernel
theorem dX7_areIn_4 : decode cX7_areIn 4 = .ok (.iload_n 3, 1) := by decide +kernel
theorem dX7_areIn_5 : decode cX7_areIn 5 = .ok (.aload_n 0, 1) := by decide +kernel
theorem dX7_areIn_6 : decode cX7_areIn 6 = .ok (.getfield 7, 3) := by decide +kernel
theorem dX7_areIn_9 : decode cX7_areIn 9 = .ok (.iconst 1, 1) := by decide +kernel
theorem dX7_areIn_10 : decode cX7_areIn 10 = .ok (.iaload, 1) := by decide +kernel
theorem dX7_areIn_11 : decode cX7_areIn 11 = .ok (.if_icmp .ge 30, 3) := by decide +kernel
theorem dX7_areIn_14 : decode cX7_areIn 14 = .ok (.iload_n 2, 1) := by decide +kernel
theorem dX7_areIn_15 : decode cX7_areIn 15 = .ok (.aload_n 0, 1) := by decide +kernel
theorem dX7_areIn_16 : decode cX7_areIn 16 = .ok (.iload_n 3, 1) := by decide +kernel
theorem dX7_areIn_17 : decode cX7_areIn 17 = .ok (.bipush 6, 2) := by decide +kernel
theorem dX7_areIn_19 : decode cX7_areIn 19 = .ok (.invokevirtual 89, 3) := by decide +kernel
theorem dX7_areIn_22 : decode cX7_areIn 22 = .ok (.iload_n 1, 1) := by decide +kernel
theorem dX7_areIn_23 : decode cX7_areIn 23 = .ok (.if_icmp .ne 9, 3) := by decide +kernel
theorem dX7_areIn_26 : decode cX7_areIn 26 = .ok (.iconst 1, 1) := by decide +kernel
theorem dX7_areIn_27 : decode cX7_areIn 27 = .ok (.iload_n 3, 1) := by decide +kernel
theorem dX7_areIn_28 : decode cX7_areIn 28 = .ok (.ishl, 1) := by decide +kernel
theorem dX7_areIn_29 : decode cX7_areIn 29 = .ok (.goto 4, 3) := by decide +kernel
theorem dX7_areIn_32 : decode cX7_areIn 32 = .ok (.iconst 0, 1) := by decide +kernel
theorem dX7_areIn_33 : decode cX7_areIn 33 = .ok (.ior, 1) := by decide +kernel
theorem dX7_areIn_34 : decode cX7_areIn 34 = .ok (.istore_n 2, 1) := by decide +kernel
theorem dX7_areIn_35 : decode cX7_areIn 35 = .ok (.iinc 3 1, 3) := by decide +kernel
theorem dX7_areIn_38 : decode cX7_areIn 38 = .ok (.goto (-34), 3) := by decide +kernel
theorem dX7_areIn_41 : decode cX7_areIn 41 = .ok (.iload_n 2, 1) := by decide +kernel
theorem dX7_areIn_42 : decode cX7_areIn 42 = .ok (.ireturn, 1) := by decide +kernel
theorem dX7_are_0 : decode cX7_are 0 = .ok (.iload_n 1, 1) := by decide +kernel
theorem dX7_are_1 : decode cX7_are 1 = .ok (.i2l, 1) := by decide +kernel
theorem dX7_are_2 : decode cX7_are 2 = .ok (.lconst 0, 1) := by decide +kernel
theorem dX7_are_3 : decode cX7_are 3 = .ok (.ldc2_w 138, 3) := by decide +kernel
theorem dX7_are_6 : decode cX7_are 6 = .ok (.invokestatic 46, 3) := by decide +kernel
theorem dX7_are_9 : decode cX7_are 9 = .ok (.ifCond .eq 11, 3) := by decide +kernel
theorem dX7_are_12 : decode cX7_are 12 = .ok (.aload_n 0, 1) := by decide +kernel
theorem dX7_are_13 : decode cX7_are 13 = .ok (.iload_n 1, 1) := by decide +kernel
theorem dX7_are_14 : decode cX7_are 14 = .ok (.invokevirtual 140, 3) := by decide +kernel
theorem dX7_are_17 : decode cX7_are 17 = .ok (.goto 9, 3) := by decide +kernel
theorem dX7_are_20 : decode cX7_are 20 = .ok (.aload_n 0, 1) := by decide +kernel
theorem dX7_are_21 : decode cX7_are 21 = .ok (.ldc 43, 2) := by decide +kernel
theorem dX7_are_23 : decode cX7_are 23 = .ok (.invokevirtual 59, 3) := by decide +kernel
theorem dX7_are_26 : decode cX7_are 26 = .ok (.ireturn, 1) := by decide +kernel
theorem dX7_onCell_0 : decode cX7_onCell 0 = .ok (.iconst 0, 1) := by decide +kernel
theorem dX7_onCell_1 : decode cX7_onCell 1 = .ok (.istore_n 2, 1) := by decide +kernel
theorem dX7_onCell_2 : decode cX7_onCell 2 = .ok (.iconst 0, 1) := by decide +kernel
theorem dX7_onCell_3 : decode cX7_onCell 3 = .ok (.istore_n 3, 1) := by decide +kernel
theorem dX7_onCell_4 : decode cX7_onCell 4 = .ok (.iload_n 3, 1) := by decide +kernel
theorem dX7_onCell_5 : decode cX7_onCell 5 = .ok (.aload_n 0, 1) := by decide +kernel
theorem dX7_onCell_6 : decode cX7_onCell 6 = .ok (.getfield 7, 3) := by decide +kernel
theorem dX7_onCell_9 : decode cX7_onCell 9 = .ok (.iconst 1, 1) := by decide +kernel
theorem dX7_onCell_10 : decode cX7_onCell 10 = .ok (.iaload, 1) := by decide +kernel
theorem dX7_onCell_11 : decode cX7_onCell 11 = .ok (.if_icmp .ge 37, 3) := by decide +kernel
theorem dX7_onCell_14 : decode cX7_onCell 14 = .ok (.iload_n 2, 1) := by decide +kernel
theorem dX7_onCell_15 : decode cX7_onCell 15 = .ok (.aload_n 0, 1) := by decide +kernel
theorem dX7_onCell_16 : decode cX7_onCell 16 = .ok (.iload_n 3, 1) := by decide +kernel
theorem dX7_onCell_17 : decode cX7_onCell 17 = .ok (.invokevirtual 114, 3) := by decide +kernel
theorem dX7_onCell_20 : decode cX7_onCell 20 = .ok (.ifCond .eq 19, 3) := by decide +kernel
theorem dX7_onCell_23 : decode cX7_onCell 23 = .ok (.aload_n 0, 1) := by decide +kernel
theorem dX7_onCell_24 : decode cX7_onCell 24 = .ok (.iload_n 3, 1) := by decide +kernel
theorem dX7_onCell_25 : decode cX7_onCell 25 = .ok (.iconst 4, 1) := by decide +kernel
theorem dX7_onCell_26 : decode cX7_onCell 26 = .ok (.invokevirtual 89, 3) := by decide +kernel
theorem dX7_onCell_29 : decode cX7_onCell 29 = .ok (.iload_n 1, 1) := by decide +kernel
theorem dX7_onCell_30 : decode cX7_onCell 30 = .ok (.if_icmp .ne 9, 3) := by decide +kernel
theorem dX7_onCell_33 : decode cX7_onCell 33 = .ok (.iconst 1, 1) := by decide +kernel
theorem dX7_onCell_34 : decode cX7_onCell 34 = .ok (.iload_n 3, 1) := by decide +kernel
theorem dX7_onCell_35 : decode cX7_onCell 35 = .ok (.ishl, 1) := by decide +kernel
theorem dX7_onCell_36 : decode cX7_onCell 36 = .ok (.goto 4, 3) := by decide +kernel
theorem dX7_onCell_39 : decode cX7_onCell 39 = .ok (.iconst 0, 1) := by decide +kernel
theorem dX7_onCell_40 : decode cX7_onCell 40 = .ok (.ior, 1) := by decide +kernel
theorem dX7_onCell_41 : decode cX7_onCell 41 = .ok (.istore_n 2, 1) := by decide +kernel
theorem dX7_onCell_42 : decode cX7_onCell 42 = .ok (.iinc 3 1, 3) := by decide +kernel
theorem dX7_onCell_45 : decode cX7_onCell 45 = .ok (.goto (-41), 3) := by decide +kernel
theorem dX7_onCell_48 : decode cX7_onCell 48 = .ok (.iload_n 2, 1) := by decide +kernel
theorem dX7_onCell_49 : decode cX7_onCell 49 = .ok (.ireturn, 1) := by decide +kernel
theorem dX7_on_0 : decode cX7_on 0 = .ok (.iload_n 1, 1) := by decide +kernel
theorem dX7_on_1 : decode cX7_on 1 = .ok (.invokestatic 51, 3) := by decide +kernel
theorem dX7_on_4 : decode cX7_on 4 = .ok (.ifCond .eq 11, 3) := by decide +kernel
theorem dX7_on_7 : decode cX7_on 7 = .ok (.aload_n 0, 1) := by decide +kernel
theorem dX7_on_8 : decode cX7_on 8 = .ok (.iload_n 1, 1) := by decide +kernel
theorem dX7_on_9 : decode cX7_on 9 = .ok (.invokevirtual 143, 3) := by decide +kernel
theorem dX7_on_12 : decode cX7_on 12 = .ok (.goto 9, 3) := by decide +kernel
theorem dX7_on_15 : decode cX7_on 15 = .ok (.aload_n 0, 1) := by decide +kernel
theorem dX7_on_16 : decode cX7_on 16 = .ok (.ldc 43, 2) := by decide +kernel
theorem dX7_on_18 : decode cX7_on 18 = .ok (.invokevirtual 59, 3) := by decide +kernel
theorem dX7_on_21 : decode cX7_on 21 = .ok (.ireturn, 1) := by decide +kernel
theorem dX7_sumOf_0 : decode cX7_sumOf 0 = .ok (.iconst 0, 1) := by decide +kernel
theorem dX7_sumOf_1 : decode cX7_sumOf 1 = .ok (.istore_n 2, 1) := by decide +kernel
theorem dX7_sumOf_2 : decode cX7_sumOf 2 = .ok (.iconst 0, 1) := by decide +kernel
theorem dX7_sumOf_3 : decode cX7_sumOf 3 = .ok (.istore_n 3, 1) := by decide +kernel
theorem dX7_sumOf_4 : decode cX7_sumOf 4 = .ok (.iload_n 3, 1) := by decide +kernel
theorem dX7_sumOf_5 : decode cX7_sumOf 5 = .ok (.aload_n 0, 1) := by decide +kernel
theorem dX7_sumOf_6 : decode cX7_sumOf 6 = .ok (.getfield 7, 3) := by decide +kernel
theorem dX7_sumOf_9 : decode cX7_sumOf 9 = .ok (.iconst 1, 1) := by decide +kernel
theorem dX7_sumOf_10 : decode cX7_sumOf 10 = .ok (.iaload, 1) := by decide +kernel
theorem dX7_sumOf_11 : decode cX7_sumOf 11 = .ok (.if_icmp .ge 18, 3) := by decide +kernel
theorem dX7_sumOf_14 : decode cX7_sumOf 14 = .ok (.iload_n 2, 1) := by decide +kernel
theorem dX7_sumOf_15 : decode cX7_sumOf 15 = .ok (.aload_n 0, 1) := by decide +kernel
theorem dX7_sumOf_16 : decode cX7_sumOf 16 = .ok (.iload_n 3, 1) := by decide +kernel
theorem dX7_sumOf_17 : decode cX7_sumOf 17 = .ok (.iload_n 1, 1) := by decide +kernel
theorem dX7_sumOf_18 : decode cX7_sumOf 18 = .ok (.invokevirtual 89, 3) := by decide +kernel
theorem dX7_sumOf_21 : decode cX7_sumOf 21 = .ok (.iadd, 1) := by decide +kernel
theorem dX7_sumOf_22 : decode cX7_sumOf 22 = .ok (.istore_n 2, 1) := by decide +kernel
theorem dX7_sumOf_23 : decode cX7_sumOf 23 = .ok (.iinc 3 1, 3) := by decide +kernel
theorem dX7_sumOf_26 : decode cX7_sumOf 26 = .ok (.goto (-22), 3) := by decide +kernel
theorem dX7_sumOf_29 : decode cX7_sumOf 29 = .ok (.iload_n 2, 1) := by decide +kernel
theorem dX7_sumOf_30 : decode cX7_sumOf 30 = .ok (.ireturn, 1) := by decide +kernel
theorem dX7_ahead_0 : decode cX7_ahead 0 = .ok (.iload_n 1, 1) := by decide +kernel
theorem dX7_ahead_1 : decode cX7_ahead 1 = .ok (.i2l, 1) := by decide +kernel
theorem dX7_ahead_2 : decode cX7_ahead 2 = .ok (.lconst 0, 1) := by decide +kernel
theorem dX7_ahead_3 : decode cX7_ahead 3 = .ok (.ldc2_w 146, 3) := by decide +kernel
theorem dX7_ahead_6 : decode cX7_ahead 6 = .ok (.invokestatic 46, 3) := by decide +kernel
theorem dX7_ahead_9 : decode cX7_ahead 9 = .ok (.ifCond .eq 21, 3) := by decide +kernel
theorem dX7_ahead_12 : decode cX7_ahead 12 = .ok (.iload_n 2, 1) := by decide +kernel
theorem dX7_ahead_13 : decode cX7_ahead 13 = .ok (.i2l, 1) := by decide +kernel
theorem dX7_ahead_14 : decode cX7_ahead 14 = .ok (.lconst 0, 1) := by decide +kernel
theorem dX7_ahead_15 : decode cX7_ahead 15 = .ok (.iconst 3, 1) := by decide +kernel
theorem dX7_ahead_16 : decode cX7_ahead 16 = .ok (.aload_n 0, 1) := by decide +kernel
theorem dX7_ahead_17 : decode cX7_ahead 17 = .ok (.getfield 7, 3) := by decide +kernel
theorem dX7_ahead_20 : decode cX7_ahead 20 = .ok (.iconst 1, 1) := by decide +kernel
theorem dX7_ahead_21 : decode cX7_ahead 21 = .ok (.iaload, 1) := by decide +kernel
theorem dX7_ahead_22 : decode cX7_ahead 22 = .ok (.iadd, 1) := by decide +kernel
theorem dX7_ahead_23 : decode cX7_ahead 23 = .ok (.i2l, 1) := by decide +kernel
theorem dX7_ahead_24 : decode cX7_ahead 24 = .ok (.invokestatic 46, 3) := by decide +kernel
theorem dX7_ahead_27 : decode cX7_ahead 27 = .ok (.ifCond .ne 10, 3) := by decide +kernel
theorem dX7_ahead_30 : decode cX7_ahead 30 = .ok (.aload_n 0, 1) := by decide +kernel
theorem dX7_ahead_31 : decode cX7_ahead 31 = .ok (.ldc 43, 2) := by decide +kernel
theorem dX7_ahead_33 : decode cX7_ahead 33 = .ok (.invokevirtual 59, 3) := by decide +kernel
theorem dX7_ahead_36 : decode cX7_ahead 36 = .ok (.ireturn, 1) := by decide +kernel
theorem dX7_ahead_37 : decode cX7_ahead 37 = .ok (.aload_n 0, 1) := by decide +kernel
theorem dX7_ahead_38 : decode cX7_ahead 38 = .ok (.iload_n 1, 1) := by decide +kernel
theorem dX7_ahead_39 : decode cX7_ahead 39 = .ok (.invokevirtual 132, 3) := by decide +kernel
theorem dX7_ahead_42 : decode cX7_ahead 42 = .ok (.ifCond .eq 10, 3) := by decide +kernel
theorem dX7_ahead_45 : decode cX7_ahead 45 = .ok (.aload_n 0, 1) := by decide +kernel
theorem dX7_ahead_46 : decode cX7_ahead 46 = .ok (.ldc 109, 2) := by decide +kernel
theorem dX7_ahead_48 : decode cX7_ahead 48 = .ok (.invokevirtual 59, 3) := by decide +kernel
theorem dX7_ahead_51 : decode cX7_ahead 51 = .ok (.ireturn, 1) := by decide +kernel
theorem dX7_ahead_52 : decode cX7_ahead 52 = .ok (.aload_n 0, 1) := by decide +kernel
theorem dX7_ahead_53 : decode cX7_ahead 53 = .ok (.invokevirtual 148, 3) := by decide +kernel
theorem dX7_ahead_56 : decode cX7_ahead 56 = .ok (.iconst 0, 1) := by decide +kernel
theorem dX7_ahead_57 : decode cX7_ahead 57 = .ok (.istore_n 3, 1) := by decide +kernel
theorem dX7_ahead_58 : decode cX7_ahead 58 = .ok (.iload_n 3, 1) := by decide +kernel
theorem dX7_ahead_59 : decode cX7_ahead 59 = .ok (.iload_n 1, 1) := by decide +kernel
theorem dX7_ahead_60 : decode cX7_ahead 60 = .ok (.if_icmp .ge 13, 3) := by decide +kernel
theorem dX7_ahead_63 : decode cX7_ahead 63 = .ok (.aload_n 0, 1) := by decide +kernel
theorem dX7_ahead_64 : decode cX7_ahead 64 = .ok (.invokevirtual 135, 3) := by decide +kernel
theorem dX7_ahead_67 : decode cX7_ahead 67 = .ok (.iinc 3 1, 3) := by decide +kernel
theorem dX7_ahead_70 : decode cX7_ahead 70 = .ok (.goto (-12), 3) := by decide +kernel
theorem dX7_ahead_73 : decode cX7_ahead 73 = .ok (.iload_n 2, 1) := by decide +kernel
theorem dX7_ahead_74 : decode cX7_ahead 74 = .ok (.ifCond .ne 11, 3) := by decide +kernel
theorem dX7_ahead_77 : decode cX7_ahead 77 = .ok (.aload_n 0, 1) := by decide +kernel
theorem dX7_ahead_78 : decode cX7_ahead 78 = .ok (.iconst 1, 1) := by decide +kernel
theorem dX7_ahead_79 : decode cX7_ahead 79 = .ok (.invokevirtual 140, 3) := by decide +kernel
theorem dX7_ahead_82 : decode cX7_ahead 82 = .ok (.goto 52, 3) := by decide +kernel
theorem dX7_ahead_85 : decode cX7_ahead 85 = .ok (.iload_n 2, 1) := by decide +kernel
theorem dX7_ahead_86 : decode cX7_ahead 86 = .ok (.iconst 1, 1) := by decide +kernel
theorem dX7_ahead_87 : decode cX7_ahead 87 = .ok (.if_icmp .ne 11, 3) := by decide +kernel
theorem dX7_ahead_90 : decode cX7_ahead 90 = .ok (.aload_n 0, 1) := by decide +kernel
theorem dX7_ahead_91 : decode cX7_ahead 91 = .ok (.iconst 2, 1) := by decide +kernel
theorem dX7_ahead_92 : decode cX7_ahead 92 = .ok (.invokevirtual 140, 3) := by decide +kernel
theorem dX7_ahead_95 : decode cX7_ahead 95 = .ok (.goto 39, 3) := by decide +kernel
theorem dX7_ahead_98 : decode cX7_ahead 98 = .ok (.iload_n 2, 1) := by decide +kernel
theorem dX7_ahead_99 : decode cX7_ahead 99 = .ok (.iconst 2, 1) := by decide +kernel
theorem dX7_ahead_100 : decode cX7_ahead 100 = .ok (.if_icmp .ne 12, 3) := by decide +kernel
theorem dX7_ahead_103 : decode cX7_ahead 103 = .ok (.aload_n 0, 1) := by decide +kernel
theorem dX7_ahead_104 : decode cX7_ahead 104 = .ok (.bipush 30, 2) := by decide +kernel
theorem dX7_ahead_106 : decode cX7_ahead 106 = .ok (.invokevirtual 143, 3) := by decide +kernel
theorem dX7_ahead_109 : decode cX7_ahead 109 = .ok (.goto 25, 3) := by decide +kernel
theorem dX7_ahead_112 : decode cX7_ahead 112 = .ok (.iload_n 2, 1) := by decide +kernel
theorem dX7_ahead_113 : decode cX7_ahead 113 = .ok (.iconst 3, 1) := by decide +kernel
theorem dX7_ahead_114 : decode cX7_ahead 114 = .ok (.if_icmp .ne 12, 3) := by decide +kernel
theorem dX7_ahead_117 : decode cX7_ahead 117 = .ok (.aload_n 0, 1) := by decide +kernel
theorem dX7_ahead_118 : decode cX7_ahead 118 = .ok (.bipush 7, 2) := by decide +kernel
theorem dX7_ahead_120 : decode cX7_ahead 120 = .ok (.invokevirtual 151, 3) := by decide +kernel
theorem dX7_ahead_123 : decode cX7_ahead 123 = .ok (.goto 11, 3) := by decide +kernel
theorem dX7_ahead_126 : decode cX7_ahead 126 = .ok (.aload_n 0, 1) := by decide +kernel
theorem dX7_ahead_127 : decode cX7_ahead 127 = .ok (.iload_n 2, 1) := by decide +kernel
theorem dX7_ahead_128 : decode cX7_ahead 128 = .ok (.iconst 4, 1) := by decide +kernel
theorem dX7_ahead_129 : decode cX7_ahead 129 = .ok (.isub, 1) := by decide +kernel
theorem dX7_ahead_130 : decode cX7_ahead 130 = .ok (.iconst 4, 1) := by decide +kernel
theorem dX7_ahead_131 : decode cX7_ahead 131 = .ok (.invokevirtual 89, 3) := by decide +kernel
theorem dX7_ahead_134 : decode cX7_ahead 134 = .ok (.istore_n 3, 1) := by decide +kernel
theorem dX7_ahead_135 : decode cX7_ahead 135 = .ok (.aload_n 0, 1) := by decide +kernel
theorem dX7_ahead_136 : decode cX7_ahead 136 = .ok (.invokevirtual 154, 3) := by decide +kernel
theorem dX7_ahead_139 : decode cX7_ahead 139 = .ok (.iload_n 3, 1) := by decide +kernel
theorem dX7_ahead_140 : decode cX7_ahead 140 = .ok (.ireturn, 1) := by decide +kernel
theorem dX7_meet_0 : decode cX7_meet 0 = .ok (.aload_n 0, 1) := by decide +kernel
theorem dX7_meet_1 : decode cX7_meet 1 = .ok (.sipush 200, 3) := by decide +kernel
theorem dX7_meet_4 : decode cX7_meet 4 = .ok (.invokevirtual 132, 3) := by decide +kernel
theorem dX7_meet_7 : decode cX7_meet 7 = .ok (.ifCond .eq 10, 3) := by decide +kernel
theorem dX7_meet_10 : decode cX7_meet 10 = .ok (.aload_n 0, 1) := by decide +kernel
theorem dX7_meet_11 : decode cX7_meet 11 = .ok (.ldc 109, 2) := by decide +kernel
theorem dX7_meet_13 : decode cX7_meet 13 = .ok (.invokevirtual 59, 3) := by decide +kernel
theorem dX7_meet_16 : decode cX7_meet 16 = .ok (.ireturn, 1) := by decide +kernel
theorem dX7_meet_17 : decode cX7_meet 17 = .ok (.aload_n 0, 1) := by decide +kernel
theorem dX7_meet_18 : decode cX7_meet 18 = .ok (.invokevirtual 148, 3) := by decide +kernel
theorem dX7_meet_21 : decode cX7_meet 21 = .ok (.iconst 0, 1) := by decide +kernel
theorem dX7_meet_22 : decode cX7_meet 22 = .ok (.istore_n 1, 1) := by decide +kernel
theorem dX7_meet_23 : decode cX7_meet 23 = .ok (.aload_n 0, 1) := by decide +kernel
theorem dX7_meet_24 : decode cX7_meet 24 = .ok (.iconst 0, 1) := by decide +kernel
theorem dX7_meet_25 : decode cX7_meet 25 = .ok (.putfield 117, 3) := by decide +kernel
theorem dX7_meet_28 : decode cX7_meet 28 = .ok (.iload_n 1, 1) := by decide +kernel
theorem dX7_meet_29 : decode cX7_meet 29 = .ok (.sipush 200, 3) := by decide +kernel
theorem dX7_meet_32 : decode cX7_meet 32 = .ok (.if_icmp .ge 20, 3) := by decide +kernel
theorem dX7_meet_35 : decode cX7_meet 35 = .ok (.aload_n 0, 1) := by decide +kernel
theorem dX7_meet_36 : decode cX7_meet 36 = .ok (.getfield 117, 3) := by decide +kernel
theorem dX7_meet_39 : decode cX7_meet 39 = .ok (.ifCond .ne 13, 3) := by decide +kernel
theorem dX7_meet_42 : decode cX7_meet 42 = .ok (.aload_n 0, 1) := by decide +kernel
theorem dX7_meet_43 : decode cX7_meet 43 = .ok (.invokevirtual 135, 3) := by decide +kernel
theorem dX7_meet_46 : decode cX7_meet 46 = .ok (.iinc 1 1, 3) := by decide +kernel
theorem dX7_meet_49 : decode cX7_meet 49 = .ok (.goto (-21), 3) := by decide +kernel
theorem dX7_meet_52 : decode cX7_meet 52 = .ok (.aload_n 0, 1) := by decide +kernel
theorem dX7_meet_53 : decode cX7_meet 53 = .ok (.getfield 117, 3) := by decide +kernel
theorem dX7_meet_56 : decode cX7_meet 56 = .ok (.ifCond .le 7, 3) := by decide +kernel
theorem dX7_meet_59 : decode cX7_meet 59 = .ok (.iconst 1, 1) := by decide +kernel
theorem dX7_meet_60 : decode cX7_meet 60 = .ok (.goto 4, 3) := by decide +kernel
theorem dX7_meet_63 : decode cX7_meet 63 = .ok (.iconst 0, 1) := by decide +kernel
theorem dX7_meet_64 : decode cX7_meet 64 = .ok (.istore_n 2, 1) := by decide +kernel
theorem dX7_meet_65 : decode cX7_meet 65 = .ok (.aload_n 0, 1) := by decide +kernel
theorem dX7_meet_66 : decode cX7_meet 66 = .ok (.invokevirtual 154, 3) := by decide +kernel
theorem dX7_meet_69 : decode cX7_meet 69 = .ok (.iload_n 2, 1) := by decide +kernel
theorem dX7_meet_70 : decode cX7_meet 70 = .ok (.ifCond .eq 7, 3) := by decide +kernel
theorem dX7_meet_73 : decode cX7_meet 73 = .ok (.iload_n 1, 1) := by decide +kernel
theorem dX7_meet_74 : decode cX7_meet 74 = .ok (.goto 9, 3) := by decide +kernel
theorem dX7_meet_77 : decode cX7_meet 77 = .ok (.aload_n 0, 1) := by decide +kernel
theorem dX7_meet_78 : decode cX7_meet 78 = .ok (.ldc 157, 2) := by decide +kernel
theorem dX7_meet_80 : decode cX7_meet 80 = .ok (.invokevirtual 59, 3) := by decide +kernel
theorem dX7_meet_83 : decode cX7_meet 83 = .ok (.ireturn, 1) := by decide +kernel
theorem dX7_alone_0 : decode cX7_alone 0 = .ok (.aload_n 0, 1) := by decide +kernel
theorem dX7_alone_1 : decode cX7_alone 1 = .ok (.iload_n 1, 1) := by decide +kernel
theorem dX7_alone_2 : decode cX7_alone 2 = .ok (.iconst 4, 1) := by decide +kernel
theorem dX7_alone_3 : decode cX7_alone 3 = .ok (.invokevirtual 89, 3) := by decide +kernel
theorem dX7_alone_6 : decode cX7_alone 6 = .ok (.istore_n 3, 1) := by decide +kernel
theorem dX7_alone_7 : decode cX7_alone 7 = .ok (.aload_n 0, 1) := by decide +kernel
theorem dX7_alone_8 : decode cX7_alone 8 = .ok (.iload_n 1, 1) := by decide +kernel
theorem dX7_alone_9 : decode cX7_alone 9 = .ok (.iconst 5, 1) := by decide +kernel
theorem dX7_alone_10 : decode cX7_alone 10 = .ok (.invokevirtual 89, 3) := by decide +kernel
theorem dX7_alone_13 : decode cX7_alone 13 = .ok (.istore 4, 2) := by decide +kernel
theorem dX7_alone_15 : decode cX7_alone 15 = .ok (.aload_n 0, 1) := by decide +kernel
theorem dX7_alone_16 : decode cX7_alone 16 = .ok (.iload_n 1, 1) := by decide +kernel
theorem dX7_alone_17 : decode cX7_alone 17 = .ok (.bipush 6, 2) := by decide +kernel
theorem dX7_alone_19 : decode cX7_alone 19 = .ok (.invokevirtual 89, 3) := by decide +kernel
theorem dX7_alone_22 : decode cX7_alone 22 = .ok (.istore 5, 2) := by decide +kernel
theorem dX7_alone_24 : decode cX7_alone 24 = .ok (.iload 5, 2) := by decide +kernel
theorem dX7_alone_26 : decode cX7_alone 26 = .ok (.ifCond .ne 9, 3) := by decide +kernel
theorem dX7_alone_29 : decode cX7_alone 29 = .ok (.aload_n 0, 1) := by decide +kernel
theorem dX7_alone_30 : decode cX7_alone 30 = .ok (.iload_n 1, 1) := by decide +kernel
theorem dX7_alone_31 : decode cX7_alone 31 = .ok (.iload_n 2, 1) := by decide +kernel
theorem dX7_alone_32 : decode cX7_alone 32 = .ok (.invokevirtual 110, 3) := by decide +kernel
theorem dX7_alone_35 : decode cX7_alone 35 = .ok (.aload_n 0, 1) := by decide +kernel
theorem dX7_alone_36 : decode cX7_alone 36 = .ok (.iconst 0, 1) := by decide +kernel
theorem dX7_alone_37 : decode cX7_alone 37 = .ok (.putfield 158, 3) := by decide +kernel
theorem dX7_alone_40 : decode cX7_alone 40 = .ok (.aload_n 0, 1) := by decide +kernel
theorem dX7_alone_41 : decode cX7_alone 41 = .ok (.aload_n 0, 1) := by decide +kernel
theorem dX7_alone_42 : decode cX7_alone 42 = .ok (.iload_n 1, 1) := by decide +kernel
theorem dX7_alone_43 : decode cX7_alone 43 = .ok (.iconst 5, 1) := by decide +kernel
theorem dX7_alone_44 : decode cX7_alone 44 = .ok (.invokevirtual 89, 3) := by decide +kernel
theorem dX7_alone_47 : decode cX7_alone 47 = .ok (.putfield 161, 3) := by decide +kernel
theorem dX7_alone_50 : decode cX7_alone 50 = .ok (.aload_n 0, 1) := by decide +kernel
theorem dX7_alone_51 : decode cX7_alone 51 = .ok (.iconst 1, 1) := by decide +kernel
theorem dX7_alone_52 : decode cX7_alone 52 = .ok (.iload_n 3, 1) := by decide +kernel
theorem dX7_alone_53 : decode cX7_alone 53 = .ok (.ishl, 1) := by decide +kernel
theorem dX7_alone_54 : decode cX7_alone 54 = .ok (.putfield 164, 3) := by decide +kernel
theorem dX7_alone_57 : decode cX7_alone 57 = .ok (.aload_n 0, 1) := by decide +kernel
theorem dX7_alone_58 : decode cX7_alone 58 = .ok (.iload_n 1, 1) := by decide +kernel
theorem dX7_alone_59 : decode cX7_alone 59 = .ok (.bipush 6, 2) := by decide +kernel
theorem dX7_alone_61 : decode cX7_alone 61 = .ok (.invokevirtual 89, 3) := by decide +kernel
theorem dX7_alone_64 : decode cX7_alone 64 = .ok (.iconst 1, 1) := by decide +kernel
theorem dX7_alone_65 : decode cX7_alone 65 = .ok (.if_icmp .ne 104, 3) := by decide +kernel
theorem dX7_alone_68 : decode cX7_alone 68 = .ok (.aload_n 0, 1) := by decide +kernel
theorem dX7_alone_69 : decode cX7_alone 69 = .ok (.getfield 158, 3) := by decide +kernel
theorem dX7_alone_72 : decode cX7_alone 72 = .ok (.sipush 200, 3) := by decide +kernel
theorem dX7_alone_75 : decode cX7_alone 75 = .ok (.if_icmp .ge 94, 3) := by decide +kernel
theorem dX7_alone_78 : decode cX7_alone 78 = .ok (.aload_n 0, 1) := by decide +kernel
theorem dX7_alone_79 : decode cX7_alone 79 = .ok (.iload_n 1, 1) := by decide +kernel
theorem dX7_alone_80 : decode cX7_alone 80 = .ok (.aload_n 0, 1) := by decide +kernel
theorem dX7_alone_81 : decode cX7_alone 81 = .ok (.getfield 7, 3) := by decide +kernel
theorem dX7_alone_84 : decode cX7_alone 84 = .ok (.iconst 0, 1) := by decide +kernel
theorem dX7_alone_85 : decode cX7_alone 85 = .ok (.iaload, 1) := by decide +kernel
theorem dX7_alone_86 : decode cX7_alone 86 = .ok (.aload_n 0, 1) := by decide +kernel
theorem dX7_alone_87 : decode cX7_alone 87 = .ok (.getfield 158, 3) := by decide +kernel
theorem dX7_alone_90 : decode cX7_alone 90 = .ok (.iadd, 1) := by decide +kernel
theorem dX7_alone_91 : decode cX7_alone 91 = .ok (.invokevirtual 124, 3) := by decide +kernel
theorem dX7_alone_94 : decode cX7_alone 94 = .ok (.aload_n 0, 1) := by decide +kernel
theorem dX7_alone_95 : decode cX7_alone 95 = .ok (.dup, 1) := by decide +kernel
theorem dX7_alone_96 : decode cX7_alone 96 = .ok (.getfield 158, 3) := by decide +kernel
theorem dX7_alone_99 : decode cX7_alone 99 = .ok (.iconst 1, 1) := by decide +kernel
theorem dX7_alone_100 : decode cX7_alone 100 = .ok (.iadd, 1) := by decide +kernel
theorem dX7_alone_101 : decode cX7_alone 101 = .ok (.putfield 158, 3) := by decide +kernel
theorem dX7_alone_104 : decode cX7_alone 104 = .ok (.aload_n 0, 1) := by decide +kernel
theorem dX7_alone_105 : decode cX7_alone 105 = .ok (.aload_n 0, 1) := by decide +kernel
theorem dX7_alone_106 : decode cX7_alone 106 = .ok (.iload_n 1, 1) := by decide +kernel
theorem dX7_alone_107 : decode cX7_alone 107 = .ok (.iconst 5, 1) := by decide +kernel
theorem dX7_alone_108 : decode cX7_alone 108 = .ok (.invokevirtual 89, 3) := by decide +kernel
theorem dX7_alone_111 : decode cX7_alone 111 = .ok (.aload_n 0, 1) := by decide +kernel
theorem dX7_alone_112 : decode cX7_alone 112 = .ok (.getfield 161, 3) := by decide +kernel
theorem dX7_alone_115 : decode cX7_alone 115 = .ok (.if_icmp .le 12, 3) := by decide +kernel
theorem dX7_alone_118 : decode cX7_alone 118 = .ok (.aload_n 0, 1) := by decide +kernel
theorem dX7_alone_119 : decode cX7_alone 119 = .ok (.iload_n 1, 1) := by decide +kernel
theorem dX7_alone_120 : decode cX7_alone 120 = .ok (.iconst 5, 1) := by decide +kernel
theorem dX7_alone_121 : decode cX7_alone 121 = .ok (.invokevirtual 89, 3) := by decide +kernel
theorem dX7_alone_124 : decode cX7_alone 124 = .ok (.goto 7, 3) := by decide +kernel
theorem dX7_alone_127 : decode cX7_alone 127 = .ok (.aload_n 0, 1) := by decide +kernel
theorem dX7_alone_128 : decode cX7_alone 128 = .ok (.getfield 161, 3) := by decide +kernel
theorem dX7_alone_131 : decode cX7_alone 131 = .ok (.putfield 161, 3) := by decide +kernel
theorem dX7_alone_134 : decode cX7_alone 134 = .ok (.aload_n 0, 1) := by decide +kernel
theorem dX7_alone_135 : decode cX7_alone 135 = .ok (.dup, 1) := by decide +kernel
theorem dX7_alone_136 : decode cX7_alone 136 = .ok (.getfield 164, 3) := by decide +kernel
theorem dX7_alone_139 : decode cX7_alone 139 = .ok (.aload_n 0, 1) := by decide +kernel
theorem dX7_alone_140 : decode cX7_alone 140 = .ok (.iload_n 1, 1) := by decide +kernel
theorem dX7_alone_141 : decode cX7_alone 141 = .ok (.bipush 6, 2) := by decide +kernel
theorem dX7_alone_143 : decode cX7_alone 143 = .ok (.invokevirtual 89, 3) := by decide +kernel
theorem dX7_alone_146 : decode cX7_alone 146 = .ok (.iconst 2, 1) := by decide +kernel
theorem dX7_alone_147 : decode cX7_alone 147 = .ok (.if_icmp .ne 7, 3) := by decide +kernel
theorem dX7_alone_150 : decode cX7_alone 150 = .ok (.iconst 0, 1) := by decide +kernel
theorem dX7_alone_151 : decode cX7_alone 151 = .ok (.goto 11, 3) := by decide +kernel
theorem dX7_alone_154 : decode cX7_alone 154 = .ok (.iconst 1, 1) := by decide +kernel
theorem dX7_alone_155 : decode cX7_alone 155 = .ok (.aload_n 0, 1) := by decide +kernel
theorem dX7_alone_156 : decode cX7_alone 156 = .ok (.iload_n 1, 1) := by decide +kernel
theorem dX7_alone_157 : decode cX7_alone 157 = .ok (.iconst 4, 1) := by decide +kernel
theorem dX7_alone_158 : decode cX7_alone 158 = .ok (.invokevirtual 89, 3) := by decide +kernel
theorem dX7_alone_161 : decode cX7_alone 161 = .ok (.ishl, 1) := by decide +kernel
theorem dX7_alone_162 : decode cX7_alone 162 = .ok (.ior, 1) := by decide +kernel
theorem dX7_alone_163 : decode cX7_alone 163 = .ok (.putfield 164, 3) := by decide +kernel
theorem dX7_alone_166 : decode cX7_alone 166 = .ok (.goto (-109), 3) := by decide +kernel
theorem dX7_alone_169 : decode cX7_alone 169 = .ok (.aload_n 0, 1) := by decide +kernel
theorem dX7_alone_170 : decode cX7_alone 170 = .ok (.aload_n 0, 1) := by decide +kernel
theorem dX7_alone_171 : decode cX7_alone 171 = .ok (.iload_n 1, 1) := by decide +kernel
theorem dX7_alone_172 : decode cX7_alone 172 = .ok (.bipush 6, 2) := by decide +kernel
theorem dX7_alone_174 : decode cX7_alone 174 = .ok (.invokevirtual 89, 3) := by decide +kernel
theorem dX7_alone_177 : decode cX7_alone 177 = .ok (.putfield 167, 3) := by decide +kernel
theorem dX7_alone_180 : decode cX7_alone 180 = .ok (.aload_n 0, 1) := by decide +kernel
theorem dX7_alone_181 : decode cX7_alone 181 = .ok (.aload_n 0, 1) := by decide +kernel
theorem dX7_alone_182 : decode cX7_alone 182 = .ok (.getfield 167, 3) := by decide +kernel
theorem dX7_alone_185 : decode cX7_alone 185 = .ok (.iconst 2, 1) := by decide +kernel
theorem dX7_alone_186 : decode cX7_alone 186 = .ok (.if_icmp .ne 7, 3) := by decide +kernel
theorem dX7_alone_189 : decode cX7_alone 189 = .ok (.iconst (-1), 1) := by decide +kernel
