theorem dX4_init_0 : decode cX4_init 0 = .ok (.aload_n 0, 1) := by decide +kernel
theorem dX4_init_1 : decode cX4_init 1 = .ok (.invokespecial 3, 3) := by decide +kernel
theorem dX4_init_4 : decode cX4_init 4 = .ok (.return_, 1) := by decide +kernel
theorem dX4_beginAs_0 : decode cX4_beginAs 0 = .ok (.aload_n 0, 1) := by decide +kernel
theorem dX4_beginAs_1 : decode cX4_beginAs 1 = .ok (.iload_n 1, 1) := by decide +kernel
theorem dX4_beginAs_2 : decode cX4_beginAs 2 = .ok (.putfield 9, 3) := by decide +kernel
theorem dX4_beginAs_5 : decode cX4_beginAs 5 = .ok (.aload_n 0, 1) := by decide +kernel
theorem dX4_beginAs_6 : decode cX4_beginAs 6 = .ok (.iload_n 2, 1) := by decide +kernel
theorem dX4_beginAs_7 : decode cX4_beginAs 7 = .ok (.putfield 15, 3) := by decide +kernel
theorem dX4_beginAs_10 : decode cX4_beginAs 10 = .ok (.aload_n 0, 1) := by decide +kernel
theorem dX4_beginAs_11 : decode cX4_beginAs 11 = .ok (.iconst 4, 1) := by decide +kernel
theorem dX4_beginAs_12 : decode cX4_beginAs 12 = .ok (.putfield 18, 3) := by decide +kernel
theorem dX4_beginAs_15 : decode cX4_beginAs 15 = .ok (.aload_n 0, 1) := by decide +kernel
theorem dX4_beginAs_16 : decode cX4_beginAs 16 = .ok (.iconst 0, 1) := by decide +kernel
theorem dX4_beginAs_17 : decode cX4_beginAs 17 = .ok (.putfield 21, 3) := by decide +kernel
theorem dX4_beginAs_20 : decode cX4_beginAs 20 = .ok (.aload_n 0, 1) := by decide +kernel
theorem dX4_beginAs_21 : decode cX4_beginAs 21 = .ok (.iconst 0, 1) := by decide +kernel
theorem dX4_beginAs_22 : decode cX4_beginAs 22 = .ok (.putfield 24, 3) := by decide +kernel
theorem dX4_beginAs_25 : decode cX4_beginAs 25 = .ok (.aload_n 0, 1) := by decide +kernel
theorem dX4_beginAs_26 : decode cX4_beginAs 26 = .ok (.iconst 0, 1) := by decide +kernel
theorem dX4_beginAs_27 : decode cX4_beginAs 27 = .ok (.putfield 27, 3) := by decide +kernel
theorem dX4_beginAs_30 : decode cX4_beginAs 30 = .ok (.aload_n 0, 1) := by decide +kernel
theorem dX4_beginAs_31 : decode cX4_beginAs 31 = .ok (.iconst 0, 1) := by decide +kernel
theorem dX4_beginAs_32 : decode cX4_beginAs 32 = .ok (.putfield 30, 3) := by decide +kernel
theorem dX4_beginAs_35 : decode cX4_beginAs 35 = .ok (.aload_n 0, 1) := by decide +kernel
theorem dX4_beginAs_36 : decode cX4_beginAs 36 = .ok (.iconst 0, 1) := by decide +kernel
theorem dX4_beginAs_37 : decode cX4_beginAs 37 = .ok (.putfield 33, 3) := by decide +kernel
theorem dX4_beginAs_40 : decode cX4_beginAs 40 = .ok (.return_, 1) := by decide +kernel
theorem dX4_become_0 : decode cX4_become 0 = .ok (.aload_n 0, 1) := by decide +kernel
theorem dX4_become_1 : decode cX4_become 1 = .ok (.aload_n 1, 1) := by decide +kernel
theorem dX4_become_2 : decode cX4_become 2 = .ok (.getfield 9, 3) := by decide +kernel
theorem dX4_become_5 : decode cX4_become 5 = .ok (.putfield 9, 3) := by decide +kernel
theorem dX4_become_8 : decode cX4_become 8 = .ok (.aload_n 0, 1) := by decide +kernel
theorem dX4_become_9 : decode cX4_become 9 = .ok (.aload_n 1, 1) := by decide +kernel
theorem dX4_become_10 : decode cX4_become 10 = .ok (.getfield 15, 3) := by decide +kernel
theorem dX4_become_13 : decode cX4_become 13 = .ok (.putfield 15, 3) := by decide +kernel
theorem dX4_become_16 : decode cX4_become 16 = .ok (.aload_n 0, 1) := by decide +kernel
theorem dX4_become_17 : decode cX4_become 17 = .ok (.aload_n 1, 1) := by decide +kernel
theorem dX4_become_18 : decode cX4_become 18 = .ok (.getfield 18, 3) := by decide +kernel
theorem dX4_become_21 : decode cX4_become 21 = .ok (.putfield 18, 3) := by decide +kernel
theorem dX4_become_24 : decode cX4_become 24 = .ok (.aload_n 0, 1) := by decide +kernel
theorem dX4_become_25 : decode cX4_become 25 = .ok (.aload_n 1, 1) := by decide +kernel
theorem dX4_become_26 : decode cX4_become 26 = .ok (.getfield 21, 3) := by decide +kernel
theorem dX4_become_29 : decode cX4_become 29 = .ok (.putfield 21, 3) := by decide +kernel
theorem dX4_become_32 : decode cX4_become 32 = .ok (.aload_n 0, 1) := by decide +kernel
theorem dX4_become_33 : decode cX4_become 33 = .ok (.aload_n 1, 1) := by decide +kernel
theorem dX4_become_34 : decode cX4_become 34 = .ok (.getfield 24, 3) := by decide +kernel
theorem dX4_become_37 : decode cX4_become 37 = .ok (.putfield 24, 3) := by decide +kernel
theorem dX4_become_40 : decode cX4_become 40 = .ok (.aload_n 0, 1) := by decide +kernel
theorem dX4_become_41 : decode cX4_become 41 = .ok (.aload_n 1, 1) := by decide +kernel
theorem dX4_become_42 : decode cX4_become 42 = .ok (.getfield 27, 3) := by decide +kernel
theorem dX4_become_45 : decode cX4_become 45 = .ok (.putfield 27, 3) := by decide +kernel
theorem dX4_become_48 : decode cX4_become 48 = .ok (.aload_n 0, 1) := by decide +kernel
theorem dX4_become_49 : decode cX4_become 49 = .ok (.aload_n 1, 1) := by decide +kernel
theorem dX4_become_50 : decode cX4_become 50 = .ok (.getfield 30, 3) := by decide +kernel
theorem dX4_become_53 : decode cX4_become 53 = .ok (.putfield 30, 3) := by decide +kernel
theorem dX4_become_56 : decode cX4_become 56 = .ok (.aload_n 0, 1) := by decide +kernel
theorem dX4_become_57 : decode cX4_become 57 = .ok (.aload_n 1, 1) := by decide +kernel
theorem dX4_become_58 : decode cX4_become 58 = .ok (.getfield 33, 3) := by decide +kernel
theorem dX4_become_61 : decode cX4_become 61 = .ok (.putfield 33, 3) := by decide +kernel
theorem dX4_become_64 : decode cX4_become 64 = .ok (.return_, 1) := by decide +kernel
theorem dX4_gainFrom_0 : decode cX4_gainFrom 0 = .ok (.iload_n 1, 1) := by decide +kernel
theorem dX4_gainFrom_1 : decode cX4_gainFrom 1 = .ok (.aload_n 0, 1) := by decide +kernel
theorem dX4_gainFrom_2 : decode cX4_gainFrom 2 = .ok (.getfield 18, 3) := by decide +kernel
theorem dX4_gainFrom_5 : decode cX4_gainFrom 5 = .ok (.imul, 1) := by decide +kernel
theorem dX4_gainFrom_6 : decode cX4_gainFrom 6 = .ok (.istore_n 2, 1) := by decide +kernel
theorem dX4_gainFrom_7 : decode cX4_gainFrom 7 = .ok (.aload_n 0, 1) := by decide +kernel
theorem dX4_gainFrom_8 : decode cX4_gainFrom 8 = .ok (.getfield 9, 3) := by decide +kernel
theorem dX4_gainFrom_11 : decode cX4_gainFrom 11 = .ok (.tableswitch 59 1 6 #[37, 59, 41, 59, 37, 53], 37) := by decide +kernel
theorem dX4_gainFrom_48 : decode cX4_gainFrom 48 = .ok (.iload_n 2, 1) := by decide +kernel
theorem dX4_gainFrom_49 : decode cX4_gainFrom 49 = .ok (.iconst 2, 1) := by decide +kernel
theorem dX4_gainFrom_50 : decode cX4_gainFrom 50 = .ok (.iadd, 1) := by decide +kernel
theorem dX4_gainFrom_51 : decode cX4_gainFrom 51 = .ok (.ireturn, 1) := by decide +kernel
theorem dX4_gainFrom_52 : decode cX4_gainFrom 52 = .ok (.iload_n 2, 1) := by decide +kernel
theorem dX4_gainFrom_53 : decode cX4_gainFrom 53 = .ok (.iconst 2, 1) := by decide +kernel
theorem dX4_gainFrom_54 : decode cX4_gainFrom 54 = .ok (.iadd, 1) := by decide +kernel
theorem dX4_gainFrom_55 : decode cX4_gainFrom 55 = .ok (.aload_n 0, 1) := by decide +kernel
theorem dX4_gainFrom_56 : decode cX4_gainFrom 56 = .ok (.getfield 15, 3) := by decide +kernel
theorem dX4_gainFrom_59 : decode cX4_gainFrom 59 = .ok (.bipush 10, 2) := by decide +kernel
theorem dX4_gainFrom_61 : decode cX4_gainFrom 61 = .ok (.idiv, 1) := by decide +kernel
theorem dX4_gainFrom_62 : decode cX4_gainFrom 62 = .ok (.iadd, 1) := by decide +kernel
theorem dX4_gainFrom_63 : decode cX4_gainFrom 63 = .ok (.ireturn, 1) := by decide +kernel
theorem dX4_gainFrom_64 : decode cX4_gainFrom 64 = .ok (.iload_n 2, 1) := by decide +kernel
theorem dX4_gainFrom_65 : decode cX4_gainFrom 65 = .ok (.iconst 0, 1) := by decide +kernel
theorem dX4_gainFrom_66 : decode cX4_gainFrom 66 = .ok (.invokestatic 36, 3) := by decide +kernel
theorem dX4_gainFrom_69 : decode cX4_gainFrom 69 = .ok (.ireturn, 1) := by decide +kernel
theorem dX4_gainFrom_70 : decode cX4_gainFrom 70 = .ok (.iload_n 2, 1) := by decide +kernel
theorem dX4_gainFrom_71 : decode cX4_gainFrom 71 = .ok (.ireturn, 1) := by decide +kernel
theorem dX4_dragOn_0 : decode cX4_dragOn 0 = .ok (.iload_n 1, 1) := by decide +kernel
theorem dX4_dragOn_1 : decode cX4_dragOn 1 = .ok (.iconst 0, 1) := by decide +kernel
theorem dX4_dragOn_2 : decode cX4_dragOn 2 = .ok (.iconst 4, 1) := by decide +kernel
theorem dX4_dragOn_3 : decode cX4_dragOn 3 = .ok (.invokestatic 42, 3) := by decide +kernel
theorem dX4_dragOn_6 : decode cX4_dragOn 6 = .ok (.ifCond .eq 11, 3) := by decide +kernel
theorem dX4_dragOn_9 : decode cX4_dragOn 9 = .ok (.getstatic 46, 3) := by decide +kernel
theorem dX4_dragOn_12 : decode cX4_dragOn 12 = .ok (.iload_n 1, 1) := by decide +kernel
theorem dX4_dragOn_13 : decode cX4_dragOn 13 = .ok (.iaload, 1) := by decide +kernel
theorem dX4_dragOn_14 : decode cX4_dragOn 14 = .ok (.goto 4, 3) := by decide +kernel
theorem dX4_dragOn_17 : decode cX4_dragOn 17 = .ok (.iconst 0, 1) := by decide +kernel
theorem dX4_dragOn_18 : decode cX4_dragOn 18 = .ok (.istore_n 2, 1) := by decide +kernel
theorem dX4_dragOn_19 : decode cX4_dragOn 19 = .ok (.aload_n 0, 1) := by decide +kernel
theorem dX4_dragOn_20 : decode cX4_dragOn 20 = .ok (.getfield 9, 3) := by decide +kernel
theorem dX4_dragOn_23 : decode cX4_dragOn 23 = .ok (.tableswitch 59 2 5 #[29, 59, 36, 55], 29) := by decide +kernel
theorem dX4_dragOn_52 : decode cX4_dragOn 52 = .ok (.iload_n 2, 1) := by decide +kernel
theorem dX4_dragOn_53 : decode cX4_dragOn 53 = .ok (.aload_n 0, 1) := by decide +kernel
theorem dX4_dragOn_54 : decode cX4_dragOn 54 = .ok (.getfield 21, 3) := by decide +kernel
theorem dX4_dragOn_57 : decode cX4_dragOn 57 = .ok (.iadd, 1) := by decide +kernel
theorem dX4_dragOn_58 : decode cX4_dragOn 58 = .ok (.ireturn, 1) := by decide +kernel
theorem dX4_dragOn_59 : decode cX4_dragOn 59 = .ok (.iload_n 2, 1) := by decide +kernel
theorem dX4_dragOn_60 : decode cX4_dragOn 60 = .ok (.aload_n 0, 1) := by decide +kernel
theorem dX4_dragOn_61 : decode cX4_dragOn 61 = .ok (.getfield 21, 3) := by decide +kernel
theorem dX4_dragOn_64 : decode cX4_dragOn 64 = .ok (.iadd, 1) := by decide +kernel
theorem dX4_dragOn_65 : decode cX4_dragOn 65 = .ok (.iload_n 1, 1) := by decide +kernel
theorem dX4_dragOn_66 : decode cX4_dragOn 66 = .ok (.iconst 2, 1) := by decide +kernel
theorem dX4_dragOn_67 : decode cX4_dragOn 67 = .ok (.if_icmp .ne 8, 3) := by decide +kernel
theorem dX4_dragOn_70 : decode cX4_dragOn 70 = .ok (.bipush 10, 2) := by decide +kernel
theorem dX4_dragOn_72 : decode cX4_dragOn 72 = .ok (.goto 4, 3) := by decide +kernel
theorem dX4_dragOn_75 : decode cX4_dragOn 75 = .ok (.iconst 0, 1) := by decide +kernel
theorem dX4_dragOn_76 : decode cX4_dragOn 76 = .ok (.isub, 1) := by decide +kernel
theorem dX4_dragOn_77 : decode cX4_dragOn 77 = .ok (.ireturn, 1) := by decide +kernel
theorem dX4_dragOn_78 : decode cX4_dragOn 78 = .ok (.iload_n 2, 1) := by decide +kernel
theorem dX4_dragOn_79 : decode cX4_dragOn 79 = .ok (.iconst 2, 1) := by decide +kernel
theorem dX4_dragOn_80 : decode cX4_dragOn 80 = .ok (.idiv, 1) := by decide +kernel
theorem dX4_dragOn_81 : decode cX4_dragOn 81 = .ok (.ireturn, 1) := by decide +kernel
theorem dX4_dragOn_82 : decode cX4_dragOn 82 = .ok (.iload_n 2, 1) := by decide +kernel
theorem dX4_dragOn_83 : decode cX4_dragOn 83 = .ok (.ireturn, 1) := by decide +kernel
theorem dX4_bendLimit_0 : decode cX4_bendLimit 0 = .ok (.aload_n 0, 1) := by decide +kernel
theorem dX4_bendLimit_1 : decode cX4_bendLimit 1 = .ok (.getfield 9, 3) := by decide +kernel
theorem dX4_bendLimit_4 : decode cX4_bendLimit 4 = .ok (.tableswitch 52 1 5 #[36, 42, 39, 42, 36], 36) := by decide +kernel
theorem dX4_bendLimit_40 : decode cX4_bendLimit 40 = .ok (.bipush 30, 2) := by decide +kernel
theorem dX4_bendLimit_42 : decode cX4_bendLimit 42 = .ok (.ireturn, 1) := by decide +kernel
theorem dX4_bendLimit_43 : decode cX4_bendLimit 43 = .ok (.bipush 55, 2) := by decide +kernel
theorem dX4_bendLimit_45 : decode cX4_bendLimit 45 = .ok (.ireturn, 1) := by decide +kernel
theorem dX4_bendLimit_46 : decode cX4_bendLimit 46 = .ok (.bipush 40, 2) := by decide +kernel
theorem dX4_bendLimit_48 : decode cX4_bendLimit 48 = .ok (.iconst 3, 1) := by decide +kernel
theorem dX4_bendLimit_49 : decode cX4_bendLimit 49 = .ok (.aload_n 0, 1) := by decide +kernel
theorem dX4_bendLimit_50 : decode cX4_bendLimit 50 = .ok (.getfield 21, 3) := by decide +kernel
theorem dX4_bendLimit_53 : decode cX4_bendLimit 53 = .ok (.imul, 1) := by decide +kernel
theorem dX4_bendLimit_54 : decode cX4_bendLimit 54 = .ok (.isub, 1) := by decide +kernel
theorem dX4_bendLimit_55 : decode cX4_bendLimit 55 = .ok (.ireturn, 1) := by decide +kernel
theorem dX4_bendLimit_56 : decode cX4_bendLimit 56 = .ok (.bipush 40, 2) := by decide +kernel
theorem dX4_bendLimit_58 : decode cX4_bendLimit 58 = .ok (.ireturn, 1) := by decide +kernel
theorem dX4_isOfKind_0 : decode cX4_isOfKind 0 = .ok (.aload_n 0, 1) := by decide +kernel
theorem dX4_isOfKind_1 : decode cX4_isOfKind 1 = .ok (.getfield 9, 3) := by decide +kernel
theorem dX4_isOfKind_4 : decode cX4_isOfKind 4 = .ok (.istore_n 2, 1) := by decide +kernel
theorem dX4_isOfKind_5 : decode cX4_isOfKind 5 = .ok (.iconst 0, 1) := by decide +kernel
theorem dX4_isOfKind_6 : decode cX4_isOfKind 6 = .ok (.istore_n 3, 1) := by decide +kernel
theorem dX4_isOfKind_7 : decode cX4_isOfKind 7 = .ok (.iload_n 3, 1) := by decide +kernel
theorem dX4_isOfKind_8 : decode cX4_isOfKind 8 = .ok (.bipush 7, 2) := by decide +kernel
theorem dX4_isOfKind_10 : decode cX4_isOfKind 10 = .ok (.if_icmp .ge 32, 3) := by decide +kernel
theorem dX4_isOfKind_13 : decode cX4_isOfKind 13 = .ok (.iload_n 2, 1) := by decide +kernel
theorem dX4_isOfKind_14 : decode cX4_isOfKind 14 = .ok (.iconst 0, 1) := by decide +kernel
theorem dX4_isOfKind_15 : decode cX4_isOfKind 15 = .ok (.bipush 6, 2) := by decide +kernel
theorem dX4_isOfKind_17 : decode cX4_isOfKind 17 = .ok (.invokestatic 42, 3) := by decide +kernel
theorem dX4_isOfKind_20 : decode cX4_isOfKind 20 = .ok (.ifCond .eq 22, 3) := by decide +kernel
theorem dX4_isOfKind_23 : decode cX4_isOfKind 23 = .ok (.iload_n 2, 1) := by decide +kernel
theorem dX4_isOfKind_24 : decode cX4_isOfKind 24 = .ok (.iload_n 1, 1) := by decide +kernel
theorem dX4_isOfKind_25 : decode cX4_isOfKind 25 = .ok (.if_icmp .ne 5, 3) := by decide +kernel
theorem dX4_isOfKind_28 : decode cX4_isOfKind 28 = .ok (.iconst 1, 1) := by decide +kernel
theorem dX4_isOfKind_29 : decode cX4_isOfKind 29 = .ok (.ireturn, 1) := by decide +kernel
theorem dX4_isOfKind_30 : decode cX4_isOfKind 30 = .ok (.getstatic 50, 3) := by decide +kernel
theorem dX4_isOfKind_33 : decode cX4_isOfKind 33 = .ok (.iload_n 2, 1) := by decide +kernel
theorem dX4_isOfKind_34 : decode cX4_isOfKind 34 = .ok (.iaload, 1) := by decide +kernel
theorem dX4_isOfKind_35 : decode cX4_isOfKind 35 = .ok (.istore_n 2, 1) := by decide +kernel
theorem dX4_isOfKind_36 : decode cX4_isOfKind 36 = .ok (.iinc 3 1, 3) := by decide +kernel
theorem dX4_isOfKind_39 : decode cX4_isOfKind 39 = .ok (.goto (-32), 3) := by decide +kernel
theorem dX4_isOfKind_42 : decode cX4_isOfKind 42 = .ok (.iconst 0, 1) := by decide +kernel
theorem dX4_isOfKind_43 : decode cX4_isOfKind 43 = .ok (.ireturn, 1) := by decide +kernel
theorem dX4_isStanding_0 : decode cX4_isStanding 0 = .ok (.aload_n 0, 1) := by decide +kernel
theorem dX4_isStanding_1 : decode cX4_isStanding 1 = .ok (.getfield 30, 3) := by decide +kernel
theorem dX4_isStanding_4 : decode cX4_isStanding 4 = .ok (.ifCond .eq 11, 3) := by decide +kernel
theorem dX4_isStanding_7 : decode cX4_isStanding 7 = .ok (.aload_n 0, 1) := by decide +kernel
theorem dX4_isStanding_8 : decode cX4_isStanding 8 = .ok (.getfield 30, 3) := by decide +kernel
theorem dX4_isStanding_11 : decode cX4_isStanding 11 = .ok (.iconst 1, 1) := by decide +kernel
theorem dX4_isStanding_12 : decode cX4_isStanding 12 = .ok (.if_icmp .ne 7, 3) := by decide +kernel
theorem dX4_isStanding_15 : decode cX4_isStanding 15 = .ok (.iconst 1, 1) := by decide +kernel
theorem dX4_isStanding_16 : decode cX4_isStanding 16 = .ok (.goto 4, 3) := by decide +kernel
theorem dX4_isStanding_19 : decode cX4_isStanding 19 = .ok (.iconst 0, 1) := by decide +kernel
theorem dX4_isStanding_20 : decode cX4_isStanding 20 = .ok (.ireturn, 1) := by decide +kernel
theorem dX4_canBeLetGo_0 : decode cX4_canBeLetGo 0 = .ok (.aload_n 0, 1) := by decide +kernel
theorem dX4_canBeLetGo_1 : decode cX4_canBeLetGo 1 = .ok (.getfield 30, 3) := by decide +kernel
theorem dX4_canBeLetGo_4 : decode cX4_canBeLetGo 4 = .ok (.ifCond .ne 16, 3) := by decide +kernel
theorem dX4_canBeLetGo_7 : decode cX4_canBeLetGo 7 = .ok (.aload_n 0, 1) := by decide +kernel
theorem dX4_canBeLetGo_8 : decode cX4_canBeLetGo 8 = .ok (.getfield 24, 3) := by decide +kernel
theorem dX4_canBeLetGo_11 : decode cX4_canBeLetGo 11 = .ok (.bipush 30, 2) := by decide +kernel
theorem dX4_canBeLetGo_13 : decode cX4_canBeLetGo 13 = .ok (.if_icmp .eq 7, 3) := by decide +kernel
theorem dX4_canBeLetGo_16 : decode cX4_canBeLetGo 16 = .ok (.iconst 1, 1) := by decide +kernel
theorem dX4_canBeLetGo_17 : decode cX4_canBeLetGo 17 = .ok (.goto 4, 3) := by decide +kernel
theorem dX4_canBeLetGo_20 : decode cX4_canBeLetGo 20 = .ok (.iconst 0, 1) := by decide +kernel
theorem dX4_canBeLetGo_21 : decode cX4_canBeLetGo 21 = .ok (.ireturn, 1) := by decide +kernel
theorem dX4_letGo_0 : decode cX4_letGo 0 = .ok (.aload_n 0, 1) := by decide +kernel
theorem dX4_letGo_1 : decode cX4_letGo 1 = .ok (.iconst 1, 1) := by decide +kernel
theorem dX4_letGo_2 : decode cX4_letGo 2 = .ok (.putfield 30, 3) := by decide +kernel
theorem dX4_letGo_5 : decode cX4_letGo 5 = .ok (.aload_n 0, 1) := by decide +kernel
theorem dX4_letGo_6 : decode cX4_letGo 6 = .ok (.iload_n 1, 1) := by decide +kernel
theorem dX4_letGo_7 : decode cX4_letGo 7 = .ok (.putfield 27, 3) := by decide +kernel
theorem dX4_letGo_10 : decode cX4_letGo 10 = .ok (.return_, 1) := by decide +kernel
theorem dX4_stop_0 : decode cX4_stop 0 = .ok (.aload_n 0, 1) := by decide +kernel
theorem dX4_stop_1 : decode cX4_stop 1 = .ok (.iconst 0, 1) := by decide +kernel
theorem dX4_stop_2 : decode cX4_stop 2 = .ok (.putfield 30, 3) := by decide +kernel
theorem dX4_stop_5 : decode cX4_stop 5 = .ok (.aload_n 0, 1) := by decide +kernel
theorem dX4_stop_6 : decode cX4_stop 6 = .ok (.iconst 0, 1) := by decide +kernel
theorem dX4_stop_7 : decode cX4_stop 7 = .ok (.putfield 27, 3) := by decide +kernel
theorem dX4_stop_10 : decode cX4_stop 10 = .ok (.return_, 1) := by decide +kernel
theorem dX4_wheelTime_0 : decode cX4_wheelTime 0 = .ok (.aload_n 0, 1) := by decide +kernel
theorem dX4_wheelTime_1 : decode cX4_wheelTime 1 = .ok (.getfield 15, 3) := by decide +kernel
theorem dX4_wheelTime_4 : decode cX4_wheelTime 4 = .ok (.bipush 10, 2) := by decide +kernel
theorem dX4_wheelTime_6 : decode cX4_wheelTime 6 = .ok (.idiv, 1) := by decide +kernel
theorem dX4_wheelTime_7 : decode cX4_wheelTime 7 = .ok (.iconst 1, 1) := by decide +kernel
theorem dX4_wheelTime_8 : decode cX4_wheelTime 8 = .ok (.iadd, 1) := by decide +kernel
theorem dX4_wheelTime_9 : decode cX4_wheelTime 9 = .ok (.ireturn, 1) := by decide +kernel
