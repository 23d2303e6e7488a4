theorem dX2_init_0 : decode cX2_init 0 = .ok (.aload_n 0, 1) := by decide +kernel
theorem dX2_init_1 : decode cX2_init 1 = .ok (.invokespecial 3, 3) := by decide +kernel
theorem dX2_init_4 : decode cX2_init 4 = .ok (.aload_n 0, 1) := by decide +kernel
theorem dX2_init_5 : decode cX2_init 5 = .ok (.new 9, 3) := by decide +kernel
theorem dX2_init_8 : decode cX2_init 8 = .ok (.dup, 1) := by decide +kernel
theorem dX2_init_9 : decode cX2_init 9 = .ok (.invokespecial 11, 3) := by decide +kernel
theorem dX2_init_12 : decode cX2_init 12 = .ok (.putfield 12, 3) := by decide +kernel
theorem dX2_init_15 : decode cX2_init 15 = .ok (.aload_n 0, 1) := by decide +kernel
theorem dX2_init_16 : decode cX2_init 16 = .ok (.iconst 0, 1) := by decide +kernel
theorem dX2_init_17 : decode cX2_init 17 = .ok (.putfield 18, 3) := by decide +kernel
theorem dX2_init_20 : decode cX2_init 20 = .ok (.aload_n 0, 1) := by decide +kernel
theorem dX2_init_21 : decode cX2_init 21 = .ok (.iconst 0, 1) := by decide +kernel
theorem dX2_init_22 : decode cX2_init 22 = .ok (.putfield 22, 3) := by decide +kernel
theorem dX2_init_25 : decode cX2_init 25 = .ok (.aload_n 0, 1) := by decide +kernel
theorem dX2_init_26 : decode cX2_init 26 = .ok (.iconst 0, 1) := by decide +kernel
theorem dX2_init_27 : decode cX2_init 27 = .ok (.putfield 25, 3) := by decide +kernel
theorem dX2_init_30 : decode cX2_init 30 = .ok (.return_, 1) := by decide +kernel
theorem dX2_run_0 : decode cX2_run 0 = .ok (.aload_n 0, 1) := by decide +kernel
theorem dX2_run_1 : decode cX2_run 1 = .ok (.aload_n 1, 1) := by decide +kernel
theorem dX2_run_2 : decode cX2_run 2 = .ok (.aload_n 2, 1) := by decide +kernel
theorem dX2_run_3 : decode cX2_run 3 = .ok (.bipush 10, 2) := by decide +kernel
theorem dX2_run_5 : decode cX2_run 5 = .ok (.invokevirtual 28, 3) := by decide +kernel
theorem dX2_run_8 : decode cX2_run 8 = .ok (.return_, 1) := by decide +kernel
theorem dX2_runFrom_0 : decode cX2_runFrom 0 = .ok (.aload_n 0, 1) := by decide +kernel
theorem dX2_runFrom_1 : decode cX2_runFrom 1 = .ok (.getfield 12, 3) := by decide +kernel
theorem dX2_runFrom_4 : decode cX2_runFrom 4 = .ok (.aload_n 2, 1) := by decide +kernel
theorem dX2_runFrom_5 : decode cX2_runFrom 5 = .ok (.invokevirtual 32, 3) := by decide +kernel
theorem dX2_runFrom_8 : decode cX2_runFrom 8 = .ok (.aload_n 0, 1) := by decide +kernel
theorem dX2_runFrom_9 : decode cX2_runFrom 9 = .ok (.getfield 12, 3) := by decide +kernel
theorem dX2_runFrom_12 : decode cX2_runFrom 12 = .ok (.getfield 36, 3) := by decide +kernel
theorem dX2_runFrom_15 : decode cX2_runFrom 15 = .ok (.ifCond .ne 11, 3) := by decide +kernel
theorem dX2_runFrom_18 : decode cX2_runFrom 18 = .ok (.aload_n 0, 1) := by decide +kernel
theorem dX2_runFrom_19 : decode cX2_runFrom 19 = .ok (.getfield 12, 3) := by decide +kernel
theorem dX2_runFrom_22 : decode cX2_runFrom 22 = .ok (.iload_n 3, 1) := by decide +kernel
theorem dX2_runFrom_23 : decode cX2_runFrom 23 = .ok (.invokevirtual 39, 3) := by decide +kernel
theorem dX2_runFrom_26 : decode cX2_runFrom 26 = .ok (.aload_n 0, 1) := by decide +kernel
theorem dX2_runFrom_27 : decode cX2_runFrom 27 = .ok (.aload_n 0, 1) := by decide +kernel
theorem dX2_runFrom_28 : decode cX2_runFrom 28 = .ok (.getfield 12, 3) := by decide +kernel
theorem dX2_runFrom_31 : decode cX2_runFrom 31 = .ok (.getfield 43, 3) := by decide +kernel
theorem dX2_runFrom_34 : decode cX2_runFrom 34 = .ok (.putfield 22, 3) := by decide +kernel
theorem dX2_runFrom_37 : decode cX2_runFrom 37 = .ok (.aload_n 0, 1) := by decide +kernel
theorem dX2_runFrom_38 : decode cX2_runFrom 38 = .ok (.iconst 1, 1) := by decide +kernel
theorem dX2_runFrom_39 : decode cX2_runFrom 39 = .ok (.aload_n 0, 1) := by decide +kernel
theorem dX2_runFrom_40 : decode cX2_runFrom 40 = .ok (.getfield 12, 3) := by decide +kernel
theorem dX2_runFrom_43 : decode cX2_runFrom 43 = .ok (.getfield 46, 3) := by decide +kernel
theorem dX2_runFrom_46 : decode cX2_runFrom 46 = .ok (.ishl, 1) := by decide +kernel
theorem dX2_runFrom_47 : decode cX2_runFrom 47 = .ok (.putfield 25, 3) := by decide +kernel
theorem dX2_runFrom_50 : decode cX2_runFrom 50 = .ok (.aload_n 0, 1) := by decide +kernel
theorem dX2_runFrom_51 : decode cX2_runFrom 51 = .ok (.iconst 0, 1) := by decide +kernel
theorem dX2_runFrom_52 : decode cX2_runFrom 52 = .ok (.putfield 18, 3) := by decide +kernel
theorem dX2_runFrom_55 : decode cX2_runFrom 55 = .ok (.aload_n 0, 1) := by decide +kernel
theorem dX2_runFrom_56 : decode cX2_runFrom 56 = .ok (.getfield 18, 3) := by decide +kernel
theorem dX2_runFrom_59 : decode cX2_runFrom 59 = .ok (.sipush 200, 3) := by decide +kernel
theorem dX2_runFrom_62 : decode cX2_runFrom 62 = .ok (.if_icmp .ge 91, 3) := by decide +kernel
theorem dX2_runFrom_65 : decode cX2_runFrom 65 = .ok (.aload_n 0, 1) := by decide +kernel
theorem dX2_runFrom_66 : decode cX2_runFrom 66 = .ok (.getfield 12, 3) := by decide +kernel
theorem dX2_runFrom_69 : decode cX2_runFrom 69 = .ok (.getfield 36, 3) := by decide +kernel
theorem dX2_runFrom_72 : decode cX2_runFrom 72 = .ok (.iconst 1, 1) := by decide +kernel
theorem dX2_runFrom_73 : decode cX2_runFrom 73 = .ok (.if_icmp .ne 80, 3) := by decide +kernel
theorem dX2_runFrom_76 : decode cX2_runFrom 76 = .ok (.aload_n 1, 1) := by decide +kernel
theorem dX2_runFrom_77 : decode cX2_runFrom 77 = .ok (.aload_n 0, 1) := by decide +kernel
theorem dX2_runFrom_78 : decode cX2_runFrom 78 = .ok (.getfield 12, 3) := by decide +kernel
theorem dX2_runFrom_81 : decode cX2_runFrom 81 = .ok (.aload_n 1, 1) := by decide +kernel
theorem dX2_runFrom_82 : decode cX2_runFrom 82 = .ok (.getfield 49, 3) := by decide +kernel
theorem dX2_runFrom_85 : decode cX2_runFrom 85 = .ok (.aload_n 0, 1) := by decide +kernel
theorem dX2_runFrom_86 : decode cX2_runFrom 86 = .ok (.getfield 18, 3) := by decide +kernel
theorem dX2_runFrom_89 : decode cX2_runFrom 89 = .ok (.iadd, 1) := by decide +kernel
theorem dX2_runFrom_90 : decode cX2_runFrom 90 = .ok (.invokevirtual 54, 3) := by decide +kernel
theorem dX2_runFrom_93 : decode cX2_runFrom 93 = .ok (.aload_n 0, 1) := by decide +kernel
theorem dX2_runFrom_94 : decode cX2_runFrom 94 = .ok (.dup, 1) := by decide +kernel
theorem dX2_runFrom_95 : decode cX2_runFrom 95 = .ok (.getfield 18, 3) := by decide +kernel
theorem dX2_runFrom_98 : decode cX2_runFrom 98 = .ok (.iconst 1, 1) := by decide +kernel
theorem dX2_runFrom_99 : decode cX2_runFrom 99 = .ok (.iadd, 1) := by decide +kernel
theorem dX2_runFrom_100 : decode cX2_runFrom 100 = .ok (.putfield 18, 3) := by decide +kernel
theorem dX2_runFrom_103 : decode cX2_runFrom 103 = .ok (.aload_n 0, 1) := by decide +kernel
theorem dX2_runFrom_104 : decode cX2_runFrom 104 = .ok (.aload_n 0, 1) := by decide +kernel
theorem dX2_runFrom_105 : decode cX2_runFrom 105 = .ok (.getfield 22, 3) := by decide +kernel
theorem dX2_runFrom_108 : decode cX2_runFrom 108 = .ok (.aload_n 0, 1) := by decide +kernel
theorem dX2_runFrom_109 : decode cX2_runFrom 109 = .ok (.getfield 12, 3) := by decide +kernel
theorem dX2_runFrom_112 : decode cX2_runFrom 112 = .ok (.getfield 43, 3) := by decide +kernel
theorem dX2_runFrom_115 : decode cX2_runFrom 115 = .ok (.invokestatic 58, 3) := by decide +kernel
theorem dX2_runFrom_118 : decode cX2_runFrom 118 = .ok (.putfield 22, 3) := by decide +kernel
theorem dX2_runFrom_121 : decode cX2_runFrom 121 = .ok (.aload_n 0, 1) := by decide +kernel
theorem dX2_runFrom_122 : decode cX2_runFrom 122 = .ok (.getfield 12, 3) := by decide +kernel
theorem dX2_runFrom_125 : decode cX2_runFrom 125 = .ok (.getfield 36, 3) := by decide +kernel
theorem dX2_runFrom_128 : decode cX2_runFrom 128 = .ok (.iconst 2, 1) := by decide +kernel
theorem dX2_runFrom_129 : decode cX2_runFrom 129 = .ok (.if_icmp .eq (-74), 3) := by decide +kernel
theorem dX2_runFrom_132 : decode cX2_runFrom 132 = .ok (.aload_n 0, 1) := by decide +kernel
theorem dX2_runFrom_133 : decode cX2_runFrom 133 = .ok (.dup, 1) := by decide +kernel
theorem dX2_runFrom_134 : decode cX2_runFrom 134 = .ok (.getfield 25, 3) := by decide +kernel
theorem dX2_runFrom_137 : decode cX2_runFrom 137 = .ok (.iconst 1, 1) := by decide +kernel
theorem dX2_runFrom_138 : decode cX2_runFrom 138 = .ok (.aload_n 0, 1) := by decide +kernel
theorem dX2_runFrom_139 : decode cX2_runFrom 139 = .ok (.getfield 12, 3) := by decide +kernel
theorem dX2_runFrom_142 : decode cX2_runFrom 142 = .ok (.getfield 46, 3) := by decide +kernel
theorem dX2_runFrom_145 : decode cX2_runFrom 145 = .ok (.ishl, 1) := by decide +kernel
theorem dX2_runFrom_146 : decode cX2_runFrom 146 = .ok (.ior, 1) := by decide +kernel
theorem dX2_runFrom_147 : decode cX2_runFrom 147 = .ok (.putfield 25, 3) := by decide +kernel
theorem dX2_runFrom_150 : decode cX2_runFrom 150 = .ok (.goto (-95), 3) := by decide +kernel
theorem dX2_runFrom_153 : decode cX2_runFrom 153 = .ok (.return_, 1) := by decide +kernel
theorem dX2_goesStill_0 : decode cX2_goesStill 0 = .ok (.aload_n 0, 1) := by decide +kernel
theorem dX2_goesStill_1 : decode cX2_goesStill 1 = .ok (.getfield 12, 3) := by decide +kernel
theorem dX2_goesStill_4 : decode cX2_goesStill 4 = .ok (.getfield 36, 3) := by decide +kernel
theorem dX2_goesStill_7 : decode cX2_goesStill 7 = .ok (.iconst 1, 1) := by decide +kernel
theorem dX2_goesStill_8 : decode cX2_goesStill 8 = .ok (.if_icmp .ne 7, 3) := by decide +kernel
theorem dX2_goesStill_11 : decode cX2_goesStill 11 = .ok (.iconst 1, 1) := by decide +kernel
theorem dX2_goesStill_12 : decode cX2_goesStill 12 = .ok (.goto 4, 3) := by decide +kernel
theorem dX2_goesStill_15 : decode cX2_goesStill 15 = .ok (.iconst 0, 1) := by decide +kernel
theorem dX2_goesStill_16 : decode cX2_goesStill 16 = .ok (.ireturn, 1) := by decide +kernel
theorem dX2_endsOn_0 : decode cX2_endsOn 0 = .ok (.aload_n 0, 1) := by decide +kernel
theorem dX2_endsOn_1 : decode cX2_endsOn 1 = .ok (.getfield 12, 3) := by decide +kernel
theorem dX2_endsOn_4 : decode cX2_endsOn 4 = .ok (.getfield 36, 3) := by decide +kernel
theorem dX2_endsOn_7 : decode cX2_endsOn 7 = .ok (.ifCond .ne 18, 3) := by decide +kernel
theorem dX2_endsOn_10 : decode cX2_endsOn 10 = .ok (.aload_n 0, 1) := by decide +kernel
theorem dX2_endsOn_11 : decode cX2_endsOn 11 = .ok (.getfield 12, 3) := by decide +kernel
theorem dX2_endsOn_14 : decode cX2_endsOn 14 = .ok (.getfield 46, 3) := by decide +kernel
theorem dX2_endsOn_17 : decode cX2_endsOn 17 = .ok (.iload_n 1, 1) := by decide +kernel
theorem dX2_endsOn_18 : decode cX2_endsOn 18 = .ok (.if_icmp .ne 7, 3) := by decide +kernel
theorem dX2_endsOn_21 : decode cX2_endsOn 21 = .ok (.iconst 1, 1) := by decide +kernel
theorem dX2_endsOn_22 : decode cX2_endsOn 22 = .ok (.goto 4, 3) := by decide +kernel
theorem dX2_endsOn_25 : decode cX2_endsOn 25 = .ok (.iconst 0, 1) := by decide +kernel
theorem dX2_endsOn_26 : decode cX2_endsOn 26 = .ok (.ireturn, 1) := by decide +kernel
theorem dX2_place_0 : decode cX2_place 0 = .ok (.aload_n 0, 1) := by decide +kernel
theorem dX2_place_1 : decode cX2_place 1 = .ok (.getfield 12, 3) := by decide +kernel
theorem dX2_place_4 : decode cX2_place 4 = .ok (.getfield 36, 3) := by decide +kernel
theorem dX2_place_7 : decode cX2_place 7 = .ok (.iconst 2, 1) := by decide +kernel
theorem dX2_place_8 : decode cX2_place 8 = .ok (.if_icmp .ne 7, 3) := by decide +kernel
theorem dX2_place_11 : decode cX2_place 11 = .ok (.iconst (-1), 1) := by decide +kernel
theorem dX2_place_12 : decode cX2_place 12 = .ok (.goto 10, 3) := by decide +kernel
theorem dX2_place_15 : decode cX2_place 15 = .ok (.aload_n 0, 1) := by decide +kernel
theorem dX2_place_16 : decode cX2_place 16 = .ok (.getfield 12, 3) := by decide +kernel
theorem dX2_place_19 : decode cX2_place 19 = .ok (.getfield 46, 3) := by decide +kernel
theorem dX2_place_22 : decode cX2_place 22 = .ok (.ireturn, 1) := by decide +kernel
