theorem dX1_init_0 : decode cX1_init 0 = .ok (.aload_n 0, 1) := by decide +kernel
theorem dX1_init_1 : decode cX1_init 1 = .ok (.invokespecial 3, 3) := by decide +kernel
theorem dX1_init_4 : decode cX1_init 4 = .ok (.aload_n 0, 1) := by decide +kernel
theorem dX1_init_5 : decode cX1_init 5 = .ok (.bipush 120, 2) := by decide +kernel
theorem dX1_init_7 : decode cX1_init 7 = .ok (.newarray .int, 2) := by decide +kernel
theorem dX1_init_9 : decode cX1_init 9 = .ok (.putfield 9, 3) := by decide +kernel
theorem dX1_init_12 : decode cX1_init 12 = .ok (.aload_n 0, 1) := by decide +kernel
theorem dX1_init_13 : decode cX1_init 13 = .ok (.iconst 0, 1) := by decide +kernel
theorem dX1_init_14 : decode cX1_init 14 = .ok (.putfield 15, 3) := by decide +kernel
theorem dX1_init_17 : decode cX1_init 17 = .ok (.aload_n 0, 1) := by decide +kernel
theorem dX1_init_18 : decode cX1_init 18 = .ok (.bipush 121, 2) := by decide +kernel
theorem dX1_init_20 : decode cX1_init 20 = .ok (.newarray .int, 2) := by decide +kernel
theorem dX1_init_22 : decode cX1_init 22 = .ok (.putfield 19, 3) := by decide +kernel
theorem dX1_init_25 : decode cX1_init 25 = .ok (.aload_n 0, 1) := by decide +kernel
theorem dX1_init_26 : decode cX1_init 26 = .ok (.bipush 121, 2) := by decide +kernel
theorem dX1_init_28 : decode cX1_init 28 = .ok (.newarray .int, 2) := by decide +kernel
theorem dX1_init_30 : decode cX1_init 30 = .ok (.putfield 22, 3) := by decide +kernel
theorem dX1_init_33 : decode cX1_init 33 = .ok (.aload_n 0, 1) := by decide +kernel
theorem dX1_init_34 : decode cX1_init 34 = .ok (.bipush 121, 2) := by decide +kernel
theorem dX1_init_36 : decode cX1_init 36 = .ok (.newarray .int, 2) := by decide +kernel
theorem dX1_init_38 : decode cX1_init 38 = .ok (.putfield 25, 3) := by decide +kernel
theorem dX1_init_41 : decode cX1_init 41 = .ok (.aload_n 0, 1) := by decide +kernel
theorem dX1_init_42 : decode cX1_init 42 = .ok (.bipush 121, 2) := by decide +kernel
theorem dX1_init_44 : decode cX1_init 44 = .ok (.newarray .int, 2) := by decide +kernel
theorem dX1_init_46 : decode cX1_init 46 = .ok (.putfield 28, 3) := by decide +kernel
theorem dX1_init_49 : decode cX1_init 49 = .ok (.aload_n 0, 1) := by decide +kernel
theorem dX1_init_50 : decode cX1_init 50 = .ok (.iconst 0, 1) := by decide +kernel
theorem dX1_init_51 : decode cX1_init 51 = .ok (.putfield 31, 3) := by decide +kernel
theorem dX1_init_54 : decode cX1_init 54 = .ok (.aload_n 0, 1) := by decide +kernel
theorem dX1_init_55 : decode cX1_init 55 = .ok (.iconst 0, 1) := by decide +kernel
theorem dX1_init_56 : decode cX1_init 56 = .ok (.putfield 34, 3) := by decide +kernel
theorem dX1_init_59 : decode cX1_init 59 = .ok (.aload_n 0, 1) := by decide +kernel
theorem dX1_init_60 : decode cX1_init 60 = .ok (.iconst 0, 1) := by decide +kernel
theorem dX1_init_61 : decode cX1_init 61 = .ok (.putfield 37, 3) := by decide +kernel
theorem dX1_init_64 : decode cX1_init 64 = .ok (.aload_n 0, 1) := by decide +kernel
theorem dX1_init_65 : decode cX1_init 65 = .ok (.iconst 0, 1) := by decide +kernel
theorem dX1_init_66 : decode cX1_init 66 = .ok (.putfield 40, 3) := by decide +kernel
theorem dX1_init_69 : decode cX1_init 69 = .ok (.aload_n 0, 1) := by decide +kernel
theorem dX1_init_70 : decode cX1_init 70 = .ok (.iconst 0, 1) := by decide +kernel
theorem dX1_init_71 : decode cX1_init 71 = .ok (.putfield 43, 3) := by decide +kernel
theorem dX1_init_74 : decode cX1_init 74 = .ok (.return_, 1) := by decide +kernel
theorem dX1_addByte_0 : decode cX1_addByte 0 = .ok (.aload_n 0, 1) := by decide +kernel
theorem dX1_addByte_1 : decode cX1_addByte 1 = .ok (.getfield 15, 3) := by decide +kernel
theorem dX1_addByte_4 : decode cX1_addByte 4 = .ok (.bipush 120, 2) := by decide +kernel
theorem dX1_addByte_6 : decode cX1_addByte 6 = .ok (.if_icmp .ge 23, 3) := by decide +kernel
theorem dX1_addByte_9 : decode cX1_addByte 9 = .ok (.aload_n 0, 1) := by decide +kernel
theorem dX1_addByte_10 : decode cX1_addByte 10 = .ok (.getfield 9, 3) := by decide +kernel
theorem dX1_addByte_13 : decode cX1_addByte 13 = .ok (.aload_n 0, 1) := by decide +kernel
theorem dX1_addByte_14 : decode cX1_addByte 14 = .ok (.getfield 15, 3) := by decide +kernel
theorem dX1_addByte_17 : decode cX1_addByte 17 = .ok (.iload_n 1, 1) := by decide +kernel
theorem dX1_addByte_18 : decode cX1_addByte 18 = .ok (.iastore, 1) := by decide +kernel
theorem dX1_addByte_19 : decode cX1_addByte 19 = .ok (.aload_n 0, 1) := by decide +kernel
theorem dX1_addByte_20 : decode cX1_addByte 20 = .ok (.dup, 1) := by decide +kernel
theorem dX1_addByte_21 : decode cX1_addByte 21 = .ok (.getfield 15, 3) := by decide +kernel
theorem dX1_addByte_24 : decode cX1_addByte 24 = .ok (.iconst 1, 1) := by decide +kernel
theorem dX1_addByte_25 : decode cX1_addByte 25 = .ok (.iadd, 1) := by decide +kernel
theorem dX1_addByte_26 : decode cX1_addByte 26 = .ok (.putfield 15, 3) := by decide +kernel
theorem dX1_addByte_29 : decode cX1_addByte 29 = .ok (.return_, 1) := by decide +kernel
theorem dX1_readText_0 : decode cX1_readText 0 = .ok (.aload_n 0, 1) := by decide +kernel
theorem dX1_readText_1 : decode cX1_readText 1 = .ok (.invokevirtual 46, 3) := by decide +kernel
theorem dX1_readText_4 : decode cX1_readText 4 = .ok (.aload_n 0, 1) := by decide +kernel
theorem dX1_readText_5 : decode cX1_readText 5 = .ok (.iconst 0, 1) := by decide +kernel
theorem dX1_readText_6 : decode cX1_readText 6 = .ok (.putfield 34, 3) := by decide +kernel
theorem dX1_readText_9 : decode cX1_readText 9 = .ok (.iconst 1, 1) := by decide +kernel
theorem dX1_readText_10 : decode cX1_readText 10 = .ok (.istore_n 2, 1) := by decide +kernel
theorem dX1_readText_11 : decode cX1_readText 11 = .ok (.iload_n 2, 1) := by decide +kernel
theorem dX1_readText_12 : decode cX1_readText 12 = .ok (.bipush 120, 2) := by decide +kernel
theorem dX1_readText_14 : decode cX1_readText 14 = .ok (.if_icmp .gt 64, 3) := by decide +kernel
theorem dX1_readText_17 : decode cX1_readText 17 = .ok (.aload_n 0, 1) := by decide +kernel
theorem dX1_readText_18 : decode cX1_readText 18 = .ok (.aload_n 1, 1) := by decide +kernel
theorem dX1_readText_19 : decode cX1_readText 19 = .ok (.invokevirtual 49, 3) := by decide +kernel
theorem dX1_readText_22 : decode cX1_readText 22 = .ok (.ifCond .ne 15, 3) := by decide +kernel
theorem dX1_readText_25 : decode cX1_readText 25 = .ok (.iconst (-1), 1) := by decide +kernel
theorem dX1_readText_26 : decode cX1_readText 26 = .ok (.aload_n 0, 1) := by decide +kernel
theorem dX1_readText_27 : decode cX1_readText 27 = .ok (.getfield 19, 3) := by decide +kernel
theorem dX1_readText_30 : decode cX1_readText 30 = .ok (.aload_n 0, 1) := by decide +kernel
theorem dX1_readText_31 : decode cX1_readText 31 = .ok (.getfield 34, 3) := by decide +kernel
theorem dX1_readText_34 : decode cX1_readText 34 = .ok (.iaload, 1) := by decide +kernel
theorem dX1_readText_35 : decode cX1_readText 35 = .ok (.isub, 1) := by decide +kernel
theorem dX1_readText_36 : decode cX1_readText 36 = .ok (.ireturn, 1) := by decide +kernel
theorem dX1_readText_37 : decode cX1_readText 37 = .ok (.aload_n 0, 1) := by decide +kernel
theorem dX1_readText_38 : decode cX1_readText 38 = .ok (.getfield 25, 3) := by decide +kernel
theorem dX1_readText_41 : decode cX1_readText 41 = .ok (.aload_n 0, 1) := by decide +kernel
theorem dX1_readText_42 : decode cX1_readText 42 = .ok (.getfield 34, 3) := by decide +kernel
theorem dX1_readText_45 : decode cX1_readText 45 = .ok (.iaload, 1) := by decide +kernel
theorem dX1_readText_46 : decode cX1_readText 46 = .ok (.ifCond .ne 5, 3) := by decide +kernel
theorem dX1_readText_49 : decode cX1_readText 49 = .ok (.iload_n 2, 1) := by decide +kernel
theorem dX1_readText_50 : decode cX1_readText 50 = .ok (.ireturn, 1) := by decide +kernel
theorem dX1_readText_51 : decode cX1_readText 51 = .ok (.aload_n 0, 1) := by decide +kernel
theorem dX1_readText_52 : decode cX1_readText 52 = .ok (.bipush 59, 2) := by decide +kernel
theorem dX1_readText_54 : decode cX1_readText 54 = .ok (.invokevirtual 53, 3) := by decide +kernel
theorem dX1_readText_57 : decode cX1_readText 57 = .ok (.ifCond .ne 15, 3) := by decide +kernel
theorem dX1_readText_60 : decode cX1_readText 60 = .ok (.iconst (-1), 1) := by decide +kernel
theorem dX1_readText_61 : decode cX1_readText 61 = .ok (.aload_n 0, 1) := by decide +kernel
theorem dX1_readText_62 : decode cX1_readText 62 = .ok (.getfield 19, 3) := by decide +kernel
theorem dX1_readText_65 : decode cX1_readText 65 = .ok (.aload_n 0, 1) := by decide +kernel
theorem dX1_readText_66 : decode cX1_readText 66 = .ok (.getfield 34, 3) := by decide +kernel
theorem dX1_readText_69 : decode cX1_readText 69 = .ok (.iaload, 1) := by decide +kernel
theorem dX1_readText_70 : decode cX1_readText 70 = .ok (.isub, 1) := by decide +kernel
theorem dX1_readText_71 : decode cX1_readText 71 = .ok (.ireturn, 1) := by decide +kernel
theorem dX1_readText_72 : decode cX1_readText 72 = .ok (.iinc 2 1, 3) := by decide +kernel
theorem dX1_readText_75 : decode cX1_readText 75 = .ok (.goto (-64), 3) := by decide +kernel
theorem dX1_readText_78 : decode cX1_readText 78 = .ok (.iconst (-1), 1) := by decide +kernel
theorem dX1_readText_79 : decode cX1_readText 79 = .ok (.aload_n 0, 1) := by decide +kernel
theorem dX1_readText_80 : decode cX1_readText 80 = .ok (.getfield 19, 3) := by decide +kernel
theorem dX1_readText_83 : decode cX1_readText 83 = .ok (.aload_n 0, 1) := by decide +kernel
theorem dX1_readText_84 : decode cX1_readText 84 = .ok (.getfield 34, 3) := by decide +kernel
theorem dX1_readText_87 : decode cX1_readText 87 = .ok (.iaload, 1) := by decide +kernel
theorem dX1_readText_88 : decode cX1_readText 88 = .ok (.isub, 1) := by decide +kernel
theorem dX1_readText_89 : decode cX1_readText 89 = .ok (.ireturn, 1) := by decide +kernel
theorem dX1_splitTape_0 : decode cX1_splitTape 0 = .ok (.aload_n 0, 1) := by decide +kernel
theorem dX1_splitTape_1 : decode cX1_splitTape 1 = .ok (.iconst 0, 1) := by decide +kernel
theorem dX1_splitTape_2 : decode cX1_splitTape 2 = .ok (.putfield 31, 3) := by decide +kernel
theorem dX1_splitTape_5 : decode cX1_splitTape 5 = .ok (.iconst 5, 1) := by decide +kernel
theorem dX1_splitTape_6 : decode cX1_splitTape 6 = .ok (.istore_n 1, 1) := by decide +kernel
theorem dX1_splitTape_7 : decode cX1_splitTape 7 = .ok (.iconst 0, 1) := by decide +kernel
theorem dX1_splitTape_8 : decode cX1_splitTape 8 = .ok (.istore_n 2, 1) := by decide +kernel
theorem dX1_splitTape_9 : decode cX1_splitTape 9 = .ok (.iload_n 2, 1) := by decide +kernel
theorem dX1_splitTape_10 : decode cX1_splitTape 10 = .ok (.aload_n 0, 1) := by decide +kernel
theorem dX1_splitTape_11 : decode cX1_splitTape 11 = .ok (.getfield 15, 3) := by decide +kernel
theorem dX1_splitTape_14 : decode cX1_splitTape 14 = .ok (.if_icmp .ge 82, 3) := by decide +kernel
theorem dX1_splitTape_17 : decode cX1_splitTape 17 = .ok (.aload_n 0, 1) := by decide +kernel
theorem dX1_splitTape_18 : decode cX1_splitTape 18 = .ok (.getfield 9, 3) := by decide +kernel
theorem dX1_splitTape_21 : decode cX1_splitTape 21 = .ok (.iload_n 2, 1) := by decide +kernel
theorem dX1_splitTape_22 : decode cX1_splitTape 22 = .ok (.iaload, 1) := by decide +kernel
theorem dX1_splitTape_23 : decode cX1_splitTape 23 = .ok (.invokestatic 57, 3) := by decide +kernel
theorem dX1_splitTape_26 : decode cX1_splitTape 26 = .ok (.istore_n 3, 1) := by decide +kernel
theorem dX1_splitTape_27 : decode cX1_splitTape 27 = .ok (.iload_n 3, 1) := by decide +kernel
theorem dX1_splitTape_28 : decode cX1_splitTape 28 = .ok (.iload_n 1, 1) := by decide +kernel
theorem dX1_splitTape_29 : decode cX1_splitTape 29 = .ok (.if_icmp .ne 17, 3) := by decide +kernel
theorem dX1_splitTape_32 : decode cX1_splitTape 32 = .ok (.iload_n 3, 1) := by decide +kernel
theorem dX1_splitTape_33 : decode cX1_splitTape 33 = .ok (.iconst 1, 1) := by decide +kernel
theorem dX1_splitTape_34 : decode cX1_splitTape 34 = .ok (.if_icmp .eq 8, 3) := by decide +kernel
theorem dX1_splitTape_37 : decode cX1_splitTape 37 = .ok (.iload_n 3, 1) := by decide +kernel
theorem dX1_splitTape_38 : decode cX1_splitTape 38 = .ok (.iconst 2, 1) := by decide +kernel
theorem dX1_splitTape_39 : decode cX1_splitTape 39 = .ok (.if_icmp .ne 7, 3) := by decide +kernel
theorem dX1_splitTape_42 : decode cX1_splitTape 42 = .ok (.iconst 1, 1) := by decide +kernel
theorem dX1_splitTape_43 : decode cX1_splitTape 43 = .ok (.goto 4, 3) := by decide +kernel
theorem dX1_splitTape_46 : decode cX1_splitTape 46 = .ok (.iconst 0, 1) := by decide +kernel
theorem dX1_splitTape_47 : decode cX1_splitTape 47 = .ok (.istore 4, 2) := by decide +kernel
theorem dX1_splitTape_49 : decode cX1_splitTape 49 = .ok (.iload_n 3, 1) := by decide +kernel
theorem dX1_splitTape_50 : decode cX1_splitTape 50 = .ok (.iconst 5, 1) := by decide +kernel
theorem dX1_splitTape_51 : decode cX1_splitTape 51 = .ok (.if_icmp .eq 14, 3) := by decide +kernel
theorem dX1_splitTape_54 : decode cX1_splitTape 54 = .ok (.iload 4, 2) := by decide +kernel
theorem dX1_splitTape_56 : decode cX1_splitTape 56 = .ok (.ifCond .ne 9, 3) := by decide +kernel
theorem dX1_splitTape_59 : decode cX1_splitTape 59 = .ok (.aload_n 0, 1) := by decide +kernel
theorem dX1_splitTape_60 : decode cX1_splitTape 60 = .ok (.iload_n 2, 1) := by decide +kernel
theorem dX1_splitTape_61 : decode cX1_splitTape 61 = .ok (.iload_n 3, 1) := by decide +kernel
theorem dX1_splitTape_62 : decode cX1_splitTape 62 = .ok (.invokevirtual 61, 3) := by decide +kernel
theorem dX1_splitTape_65 : decode cX1_splitTape 65 = .ok (.iload_n 3, 1) := by decide +kernel
theorem dX1_splitTape_66 : decode cX1_splitTape 66 = .ok (.iconst 5, 1) := by decide +kernel
theorem dX1_splitTape_67 : decode cX1_splitTape 67 = .ok (.if_icmp .eq 21, 3) := by decide +kernel
theorem dX1_splitTape_70 : decode cX1_splitTape 70 = .ok (.aload_n 0, 1) := by decide +kernel
theorem dX1_splitTape_71 : decode cX1_splitTape 71 = .ok (.getfield 31, 3) := by decide +kernel
theorem dX1_splitTape_74 : decode cX1_splitTape 74 = .ok (.ifCond .le 14, 3) := by decide +kernel
theorem dX1_splitTape_77 : decode cX1_splitTape 77 = .ok (.aload_n 0, 1) := by decide +kernel
theorem dX1_splitTape_78 : decode cX1_splitTape 78 = .ok (.aload_n 0, 1) := by decide +kernel
theorem dX1_splitTape_79 : decode cX1_splitTape 79 = .ok (.getfield 31, 3) := by decide +kernel
theorem dX1_splitTape_82 : decode cX1_splitTape 82 = .ok (.iconst 1, 1) := by decide +kernel
theorem dX1_splitTape_83 : decode cX1_splitTape 83 = .ok (.isub, 1) := by decide +kernel
theorem dX1_splitTape_84 : decode cX1_splitTape 84 = .ok (.iload_n 2, 1) := by decide +kernel
theorem dX1_splitTape_85 : decode cX1_splitTape 85 = .ok (.invokevirtual 65, 3) := by decide +kernel
theorem dX1_splitTape_88 : decode cX1_splitTape 88 = .ok (.iload_n 3, 1) := by decide +kernel
theorem dX1_splitTape_89 : decode cX1_splitTape 89 = .ok (.istore_n 1, 1) := by decide +kernel
theorem dX1_splitTape_90 : decode cX1_splitTape 90 = .ok (.iinc 2 1, 3) := by decide +kernel
theorem dX1_splitTape_93 : decode cX1_splitTape 93 = .ok (.goto (-84), 3) := by decide +kernel
theorem dX1_splitTape_96 : decode cX1_splitTape 96 = .ok (.aload_n 0, 1) := by decide +kernel
theorem dX1_splitTape_97 : decode cX1_splitTape 97 = .ok (.aload_n 0, 1) := by decide +kernel
theorem dX1_splitTape_98 : decode cX1_splitTape 98 = .ok (.getfield 15, 3) := by decide +kernel
theorem dX1_splitTape_101 : decode cX1_splitTape 101 = .ok (.iconst 0, 1) := by decide +kernel
theorem dX1_splitTape_102 : decode cX1_splitTape 102 = .ok (.invokevirtual 61, 3) := by decide +kernel
theorem dX1_splitTape_105 : decode cX1_splitTape 105 = .ok (.return_, 1) := by decide +kernel
theorem dX1_beginToken_0 : decode cX1_beginToken 0 = .ok (.aload_n 0, 1) := by decide +kernel
theorem dX1_beginToken_1 : decode cX1_beginToken 1 = .ok (.getfield 31, 3) := by decide +kernel
theorem dX1_beginToken_4 : decode cX1_beginToken 4 = .ok (.bipush 120, 2) := by decide +kernel
theorem dX1_beginToken_6 : decode cX1_beginToken 6 = .ok (.if_icmp .gt 53, 3) := by decide +kernel
theorem dX1_beginToken_9 : decode cX1_beginToken 9 = .ok (.aload_n 0, 1) := by decide +kernel
theorem dX1_beginToken_10 : decode cX1_beginToken 10 = .ok (.getfield 19, 3) := by decide +kernel
theorem dX1_beginToken_13 : decode cX1_beginToken 13 = .ok (.aload_n 0, 1) := by decide +kernel
theorem dX1_beginToken_14 : decode cX1_beginToken 14 = .ok (.getfield 31, 3) := by decide +kernel
theorem dX1_beginToken_17 : decode cX1_beginToken 17 = .ok (.iload_n 1, 1) := by decide +kernel
theorem dX1_beginToken_18 : decode cX1_beginToken 18 = .ok (.iastore, 1) := by decide +kernel
theorem dX1_beginToken_19 : decode cX1_beginToken 19 = .ok (.aload_n 0, 1) := by decide +kernel
theorem dX1_beginToken_20 : decode cX1_beginToken 20 = .ok (.getfield 22, 3) := by decide +kernel
theorem dX1_beginToken_23 : decode cX1_beginToken 23 = .ok (.aload_n 0, 1) := by decide +kernel
theorem dX1_beginToken_24 : decode cX1_beginToken 24 = .ok (.getfield 31, 3) := by decide +kernel
theorem dX1_beginToken_27 : decode cX1_beginToken 27 = .ok (.iload_n 1, 1) := by decide +kernel
theorem dX1_beginToken_28 : decode cX1_beginToken 28 = .ok (.iastore, 1) := by decide +kernel
theorem dX1_beginToken_29 : decode cX1_beginToken 29 = .ok (.aload_n 0, 1) := by decide +kernel
theorem dX1_beginToken_30 : decode cX1_beginToken 30 = .ok (.getfield 25, 3) := by decide +kernel
theorem dX1_beginToken_33 : decode cX1_beginToken 33 = .ok (.aload_n 0, 1) := by decide +kernel
theorem dX1_beginToken_34 : decode cX1_beginToken 34 = .ok (.getfield 31, 3) := by decide +kernel
theorem dX1_beginToken_37 : decode cX1_beginToken 37 = .ok (.iload_n 2, 1) := by decide +kernel
theorem dX1_beginToken_38 : decode cX1_beginToken 38 = .ok (.iastore, 1) := by decide +kernel
theorem dX1_beginToken_39 : decode cX1_beginToken 39 = .ok (.aload_n 0, 1) := by decide +kernel
theorem dX1_beginToken_40 : decode cX1_beginToken 40 = .ok (.getfield 28, 3) := by decide +kernel
theorem dX1_beginToken_43 : decode cX1_beginToken 43 = .ok (.aload_n 0, 1) := by decide +kernel
theorem dX1_beginToken_44 : decode cX1_beginToken 44 = .ok (.getfield 31, 3) := by decide +kernel
theorem dX1_beginToken_47 : decode cX1_beginToken 47 = .ok (.iconst 0, 1) := by decide +kernel
theorem dX1_beginToken_48 : decode cX1_beginToken 48 = .ok (.iastore, 1) := by decide +kernel
theorem dX1_beginToken_49 : decode cX1_beginToken 49 = .ok (.aload_n 0, 1) := by decide +kernel
theorem dX1_beginToken_50 : decode cX1_beginToken 50 = .ok (.dup, 1) := by decide +kernel
theorem dX1_beginToken_51 : decode cX1_beginToken 51 = .ok (.getfield 31, 3) := by decide +kernel
theorem dX1_beginToken_54 : decode cX1_beginToken 54 = .ok (.iconst 1, 1) := by decide +kernel
theorem dX1_beginToken_55 : decode cX1_beginToken 55 = .ok (.iadd, 1) := by decide +kernel
theorem dX1_beginToken_56 : decode cX1_beginToken 56 = .ok (.putfield 31, 3) := by decide +kernel
theorem dX1_beginToken_59 : decode cX1_beginToken 59 = .ok (.return_, 1) := by decide +kernel
theorem dX1_growToken_0 : decode cX1_growToken 0 = .ok (.aload_n 0, 1) := by decide +kernel
theorem dX1_growToken_1 : decode cX1_growToken 1 = .ok (.getfield 22, 3) := by decide +kernel
theorem dX1_growToken_4 : decode cX1_growToken 4 = .ok (.iload_n 1, 1) := by decide +kernel
theorem dX1_growToken_5 : decode cX1_growToken 5 = .ok (.iload_n 2, 1) := by decide +kernel
theorem dX1_growToken_6 : decode cX1_growToken 6 = .ok (.iconst 1, 1) := by decide +kernel
theorem dX1_growToken_7 : decode cX1_growToken 7 = .ok (.iadd, 1) := by decide +kernel
theorem dX1_growToken_8 : decode cX1_growToken 8 = .ok (.iastore, 1) := by decide +kernel
theorem dX1_growToken_9 : decode cX1_growToken 9 = .ok (.aload_n 0, 1) := by decide +kernel
theorem dX1_growToken_10 : decode cX1_growToken 10 = .ok (.getfield 25, 3) := by decide +kernel
theorem dX1_growToken_13 : decode cX1_growToken 13 = .ok (.iload_n 1, 1) := by decide +kernel
theorem dX1_growToken_14 : decode cX1_growToken 14 = .ok (.iaload, 1) := by decide +kernel
theorem dX1_growToken_15 : decode cX1_growToken 15 = .ok (.iconst 2, 1) := by decide +kernel
theorem dX1_growToken_16 : decode cX1_growToken 16 = .ok (.if_icmp .ne 34, 3) := by decide +kernel
theorem dX1_growToken_19 : decode cX1_growToken 19 = .ok (.aload_n 0, 1) := by decide +kernel
theorem dX1_growToken_20 : decode cX1_growToken 20 = .ok (.getfield 28, 3) := by decide +kernel
theorem dX1_growToken_23 : decode cX1_growToken 23 = .ok (.iload_n 1, 1) := by decide +kernel
theorem dX1_growToken_24 : decode cX1_growToken 24 = .ok (.sipush 1000, 3) := by decide +kernel
theorem dX1_growToken_27 : decode cX1_growToken 27 = .ok (.aload_n 0, 1) := by decide +kernel
theorem dX1_growToken_28 : decode cX1_growToken 28 = .ok (.getfield 28, 3) := by decide +kernel
theorem dX1_growToken_31 : decode cX1_growToken 31 = .ok (.iload_n 1, 1) := by decide +kernel
theorem dX1_growToken_32 : decode cX1_growToken 32 = .ok (.iaload, 1) := by decide +kernel
theorem dX1_growToken_33 : decode cX1_growToken 33 = .ok (.bipush 10, 2) := by decide +kernel
theorem dX1_growToken_35 : decode cX1_growToken 35 = .ok (.imul, 1) := by decide +kernel
theorem dX1_growToken_36 : decode cX1_growToken 36 = .ok (.aload_n 0, 1) := by decide +kernel
theorem dX1_growToken_37 : decode cX1_growToken 37 = .ok (.getfield 9, 3) := by decide +kernel
theorem dX1_growToken_40 : decode cX1_growToken 40 = .ok (.iload_n 2, 1) := by decide +kernel
theorem dX1_growToken_41 : decode cX1_growToken 41 = .ok (.iaload, 1) := by decide +kernel
theorem dX1_growToken_42 : decode cX1_growToken 42 = .ok (.iadd, 1) := by decide +kernel
theorem dX1_growToken_43 : decode cX1_growToken 43 = .ok (.bipush 48, 2) := by decide +kernel
theorem dX1_growToken_45 : decode cX1_growToken 45 = .ok (.isub, 1) := by decide +kernel
theorem dX1_growToken_46 : decode cX1_growToken 46 = .ok (.invokestatic 68, 3) := by decide +kernel
theorem dX1_growToken_49 : decode cX1_growToken 49 = .ok (.iastore, 1) := by decide +kernel
theorem dX1_growToken_50 : decode cX1_growToken 50 = .ok (.return_, 1) := by decide +kernel
theorem dX1_typeOf_0 : decode cX1_typeOf 0 = .ok (.iload_n 0, 1) := by decide +kernel
theorem dX1_typeOf_1 : decode cX1_typeOf 1 = .ok (.bipush 97, 2) := by decide +kernel
theorem dX1_typeOf_3 : decode cX1_typeOf 3 = .ok (.bipush 122, 2) := by decide +kernel
theorem dX1_typeOf_5 : decode cX1_typeOf 5 = .ok (.invokestatic 74, 3) := by decide +kernel
theorem dX1_typeOf_8 : decode cX1_typeOf 8 = .ok (.ifCond .eq 5, 3) := by decide +kernel
theorem dX1_typeOf_11 : decode cX1_typeOf 11 = .ok (.iconst 1, 1) := by decide +kernel
theorem dX1_typeOf_12 : decode cX1_typeOf 12 = .ok (.ireturn, 1) := by decide +kernel
theorem dX1_typeOf_13 : decode cX1_typeOf 13 = .ok (.iload_n 0, 1) := by decide +kernel
theorem dX1_typeOf_14 : decode cX1_typeOf 14 = .ok (.bipush 48, 2) := by decide +kernel
theorem dX1_typeOf_16 : decode cX1_typeOf 16 = .ok (.bipush 57, 2) := by decide +kernel
theorem dX1_typeOf_18 : decode cX1_typeOf 18 = .ok (.invokestatic 74, 3) := by decide +kernel
theorem dX1_typeOf_21 : decode cX1_typeOf 21 = .ok (.ifCond .eq 5, 3) := by decide +kernel
theorem dX1_typeOf_24 : decode cX1_typeOf 24 = .ok (.iconst 2, 1) := by decide +kernel
theorem dX1_typeOf_25 : decode cX1_typeOf 25 = .ok (.ireturn, 1) := by decide +kernel
theorem dX1_typeOf_26 : decode cX1_typeOf 26 = .ok (.iload_n 0, 1) := by decide +kernel
theorem dX1_typeOf_27 : decode cX1_typeOf 27 = .ok (.bipush 32, 2) := by decide +kernel
theorem dX1_typeOf_29 : decode cX1_typeOf 29 = .ok (.if_icmp .ne 5, 3) := by decide +kernel
theorem dX1_typeOf_32 : decode cX1_typeOf 32 = .ok (.iconst 5, 1) := by decide +kernel
theorem dX1_typeOf_33 : decode cX1_typeOf 33 = .ok (.ireturn, 1) := by decide +kernel
theorem dX1_typeOf_34 : decode cX1_typeOf 34 = .ok (.iload_n 0, 1) := by decide +kernel
theorem dX1_typeOf_35 : decode cX1_typeOf 35 = .ok (.bipush 59, 2) := by decide +kernel
theorem dX1_typeOf_37 : decode cX1_typeOf 37 = .ok (.if_icmp .eq 9, 3) := by decide +kernel
theorem dX1_typeOf_40 : decode cX1_typeOf 40 = .ok (.iload_n 0, 1) := by decide +kernel
theorem dX1_typeOf_41 : decode cX1_typeOf 41 = .ok (.bipush 45, 2) := by decide +kernel
theorem dX1_typeOf_43 : decode cX1_typeOf 43 = .ok (.if_icmp .ne 7, 3) := by decide +kernel
theorem dX1_typeOf_46 : decode cX1_typeOf 46 = .ok (.iconst 3, 1) := by decide +kernel
theorem dX1_typeOf_47 : decode cX1_typeOf 47 = .ok (.goto 4, 3) := by decide +kernel
theorem dX1_typeOf_50 : decode cX1_typeOf 50 = .ok (.iconst 4, 1) := by decide +kernel
theorem dX1_typeOf_51 : decode cX1_typeOf 51 = .ok (.ireturn, 1) := by decide +kernel
theorem dX1_readItem_0 : decode cX1_readItem 0 = .ok (.iconst 0, 1) := by decide +kernel
theorem dX1_readItem_1 : decode cX1_readItem 1 = .ok (.istore_n 2, 1) := by decide +kernel
theorem dX1_readItem_2 : decode cX1_readItem 2 = .ok (.iload_n 2, 1) := by decide +kernel
theorem dX1_readItem_3 : decode cX1_readItem 3 = .ok (.iconst 5, 1) := by decide +kernel
theorem dX1_readItem_4 : decode cX1_readItem 4 = .ok (.if_icmp .ge 27, 3) := by decide +kernel
theorem dX1_readItem_7 : decode cX1_readItem 7 = .ok (.aload_n 0, 1) := by decide +kernel
theorem dX1_readItem_8 : decode cX1_readItem 8 = .ok (.iload_n 2, 1) := by decide +kernel
theorem dX1_readItem_9 : decode cX1_readItem 9 = .ok (.invokestatic 78, 3) := by decide +kernel
theorem dX1_readItem_12 : decode cX1_readItem 12 = .ok (.invokevirtual 82, 3) := by decide +kernel
theorem dX1_readItem_15 : decode cX1_readItem 15 = .ok (.ifCond .eq 10, 3) := by decide +kernel
theorem dX1_readItem_18 : decode cX1_readItem 18 = .ok (.aload_n 0, 1) := by decide +kernel
theorem dX1_readItem_19 : decode cX1_readItem 19 = .ok (.aload_n 1, 1) := by decide +kernel
theorem dX1_readItem_20 : decode cX1_readItem 20 = .ok (.iload_n 2, 1) := by decide +kernel
theorem dX1_readItem_21 : decode cX1_readItem 21 = .ok (.invokevirtual 86, 3) := by decide +kernel
theorem dX1_readItem_24 : decode cX1_readItem 24 = .ok (.ireturn, 1) := by decide +kernel
theorem dX1_readItem_25 : decode cX1_readItem 25 = .ok (.iinc 2 1, 3) := by decide +kernel
theorem dX1_readItem_28 : decode cX1_readItem 28 = .ok (.goto (-26), 3) := by decide +kernel
theorem dX1_readItem_31 : decode cX1_readItem 31 = .ok (.iconst 0, 1) := by decide +kernel
theorem dX1_readItem_32 : decode cX1_readItem 32 = .ok (.istore_n 2, 1) := by decide +kernel
theorem dX1_readItem_33 : decode cX1_readItem 33 = .ok (.iload_n 2, 1) := by decide +kernel
theorem dX1_readItem_34 : decode cX1_readItem 34 = .ok (.bipush 7, 2) := by decide +kernel
theorem dX1_readItem_36 : decode cX1_readItem 36 = .ok (.if_icmp .ge 42, 3) := by decide +kernel
theorem dX1_readItem_39 : decode cX1_readItem 39 = .ok (.aload_n 0, 1) := by decide +kernel
theorem dX1_readItem_40 : decode cX1_readItem 40 = .ok (.iload_n 2, 1) := by decide +kernel
theorem dX1_readItem_41 : decode cX1_readItem 41 = .ok (.invokestatic 90, 3) := by decide +kernel
theorem dX1_readItem_44 : decode cX1_readItem 44 = .ok (.invokevirtual 93, 3) := by decide +kernel
theorem dX1_readItem_47 : decode cX1_readItem 47 = .ok (.ifCond .eq 25, 3) := by decide +kernel
theorem dX1_readItem_50 : decode cX1_readItem 50 = .ok (.aload_n 1, 1) := by decide +kernel
theorem dX1_readItem_51 : decode cX1_readItem 51 = .ok (.invokevirtual 96, 3) := by decide +kernel
theorem dX1_readItem_54 : decode cX1_readItem 54 = .ok (.ifCond .ne 16, 3) := by decide +kernel
theorem dX1_readItem_57 : decode cX1_readItem 57 = .ok (.aload_n 0, 1) := by decide +kernel
theorem dX1_readItem_58 : decode cX1_readItem 58 = .ok (.aload_n 1, 1) := by decide +kernel
theorem dX1_readItem_59 : decode cX1_readItem 59 = .ok (.iload_n 2, 1) := by decide +kernel
theorem dX1_readItem_60 : decode cX1_readItem 60 = .ok (.invokevirtual 102, 3) := by decide +kernel
theorem dX1_readItem_63 : decode cX1_readItem 63 = .ok (.ifCond .eq 7, 3) := by decide +kernel
theorem dX1_readItem_66 : decode cX1_readItem 66 = .ok (.iconst 1, 1) := by decide +kernel
theorem dX1_readItem_67 : decode cX1_readItem 67 = .ok (.goto 4, 3) := by decide +kernel
theorem dX1_readItem_70 : decode cX1_readItem 70 = .ok (.iconst 0, 1) := by decide +kernel
theorem dX1_readItem_71 : decode cX1_readItem 71 = .ok (.ireturn, 1) := by decide +kernel
theorem dX1_readItem_72 : decode cX1_readItem 72 = .ok (.iinc 2 1, 3) := by decide +kernel
theorem dX1_readItem_75 : decode cX1_readItem 75 = .ok (.goto (-42), 3) := by decide +kernel
theorem dX1_readItem_78 : decode cX1_readItem 78 = .ok (.aload_n 0, 1) := by decide +kernel
theorem dX1_readItem_79 : decode cX1_readItem 79 = .ok (.ldc 105, 2) := by decide +kernel
theorem dX1_readItem_81 : decode cX1_readItem 81 = .ok (.invokevirtual 82, 3) := by decide +kernel
theorem dX1_readItem_84 : decode cX1_readItem 84 = .ok (.ifCond .eq 9, 3) := by decide +kernel
theorem dX1_readItem_87 : decode cX1_readItem 87 = .ok (.aload_n 0, 1) := by decide +kernel
theorem dX1_readItem_88 : decode cX1_readItem 88 = .ok (.aload_n 1, 1) := by decide +kernel
theorem dX1_readItem_89 : decode cX1_readItem 89 = .ok (.invokevirtual 107, 3) := by decide +kernel
theorem dX1_readItem_92 : decode cX1_readItem 92 = .ok (.ireturn, 1) := by decide +kernel
theorem dX1_readItem_93 : decode cX1_readItem 93 = .ok (.aload_n 0, 1) := by decide +kernel
theorem dX1_readItem_94 : decode cX1_readItem 94 = .ok (.ldc 110, 2) := by decide +kernel
theorem dX1_readItem_96 : decode cX1_readItem 96 = .ok (.invokevirtual 82, 3) := by decide +kernel
theorem dX1_readItem_99 : decode cX1_readItem 99 = .ok (.ifCond .eq 15, 3) := by decide +kernel
theorem dX1_readItem_102 : decode cX1_readItem 102 = .ok (.aload_n 0, 1) := by decide +kernel
theorem dX1_readItem_103 : decode cX1_readItem 103 = .ok (.aload_n 1, 1) := by decide +kernel
theorem dX1_readItem_104 : decode cX1_readItem 104 = .ok (.invokevirtual 112, 3) := by decide +kernel
theorem dX1_readItem_107 : decode cX1_readItem 107 = .ok (.ifCond .eq 7, 3) := by decide +kernel
theorem dX1_readItem_110 : decode cX1_readItem 110 = .ok (.iconst 1, 1) := by decide +kernel
theorem dX1_readItem_111 : decode cX1_readItem 111 = .ok (.goto 4, 3) := by decide +kernel
theorem dX1_readItem_114 : decode cX1_readItem 114 = .ok (.iconst 0, 1) := by decide +kernel
theorem dX1_readItem_115 : decode cX1_readItem 115 = .ok (.ireturn, 1) := by decide +kernel
theorem dX1_readGround_0 : decode cX1_readGround 0 = .ok (.aload_n 0, 1) := by decide +kernel
theorem dX1_readGround_1 : decode cX1_readGround 1 = .ok (.invokevirtual 115, 3) := by decide +kernel
theorem dX1_readGround_4 : decode cX1_readGround 4 = .ok (.ifCond .ne 5, 3) := by decide +kernel
theorem dX1_readGround_7 : decode cX1_readGround 7 = .ok (.iconst 0, 1) := by decide +kernel
theorem dX1_readGround_8 : decode cX1_readGround 8 = .ok (.ireturn, 1) := by decide +kernel
theorem dX1_readGround_9 : decode cX1_readGround 9 = .ok (.aload_n 0, 1) := by decide +kernel
theorem dX1_readGround_10 : decode cX1_readGround 10 = .ok (.getfield 40, 3) := by decide +kernel
theorem dX1_readGround_13 : decode cX1_readGround 13 = .ok (.istore_n 3, 1) := by decide +kernel
theorem dX1_readGround_14 : decode cX1_readGround 14 = .ok (.iload_n 3, 1) := by decide +kernel
theorem dX1_readGround_15 : decode cX1_readGround 15 = .ok (.aload_n 0, 1) := by decide +kernel
theorem dX1_readGround_16 : decode cX1_readGround 16 = .ok (.getfield 43, 3) := by decide +kernel
theorem dX1_readGround_19 : decode cX1_readGround 19 = .ok (.if_icmp .gt 16, 3) := by decide +kernel
theorem dX1_readGround_22 : decode cX1_readGround 22 = .ok (.aload_n 1, 1) := by decide +kernel
theorem dX1_readGround_23 : decode cX1_readGround 23 = .ok (.getfield 118, 3) := by decide +kernel
theorem dX1_readGround_26 : decode cX1_readGround 26 = .ok (.iload_n 3, 1) := by decide +kernel
theorem dX1_readGround_27 : decode cX1_readGround 27 = .ok (.iload_n 2, 1) := by decide +kernel
theorem dX1_readGround_28 : decode cX1_readGround 28 = .ok (.iastore, 1) := by decide +kernel
theorem dX1_readGround_29 : decode cX1_readGround 29 = .ok (.iinc 3 1, 3) := by decide +kernel
theorem dX1_readGround_32 : decode cX1_readGround 32 = .ok (.goto (-18), 3) := by decide +kernel
theorem dX1_readGround_35 : decode cX1_readGround 35 = .ok (.iconst 1, 1) := by decide +kernel
theorem dX1_readGround_36 : decode cX1_readGround 36 = .ok (.ireturn, 1) := by decide +kernel
theorem dX1_readFall_0 : decode cX1_readFall 0 = .ok (.aload_n 0, 1) := by decide +kernel
theorem dX1_readFall_1 : decode cX1_readFall 1 = .ok (.invokevirtual 115, 3) := by decide +kernel
theorem dX1_readFall_4 : decode cX1_readFall 4 = .ok (.ifCond .eq 12, 3) := by decide +kernel
theorem dX1_readFall_7 : decode cX1_readFall 7 = .ok (.aload_n 0, 1) := by decide +kernel
theorem dX1_readFall_8 : decode cX1_readFall 8 = .ok (.ldc 121, 2) := by decide +kernel
theorem dX1_readFall_10 : decode cX1_readFall 10 = .ok (.invokevirtual 82, 3) := by decide +kernel
theorem dX1_readFall_13 : decode cX1_readFall 13 = .ok (.ifCond .ne 5, 3) := by decide +kernel
theorem dX1_readFall_16 : decode cX1_readFall 16 = .ok (.iconst 0, 1) := by decide +kernel
theorem dX1_readFall_17 : decode cX1_readFall 17 = .ok (.ireturn, 1) := by decide +kernel
theorem dX1_readFall_18 : decode cX1_readFall 18 = .ok (.aload_n 0, 1) := by decide +kernel
theorem dX1_readFall_19 : decode cX1_readFall 19 = .ok (.bipush 45, 2) := by decide +kernel
theorem dX1_readFall_21 : decode cX1_readFall 21 = .ok (.invokevirtual 53, 3) := by decide +kernel
theorem dX1_readFall_24 : decode cX1_readFall 24 = .ok (.istore_n 2, 1) := by decide +kernel
theorem dX1_readFall_25 : decode cX1_readFall 25 = .ok (.aload_n 0, 1) := by decide +kernel
theorem dX1_readFall_26 : decode cX1_readFall 26 = .ok (.iconst 0, 1) := by decide +kernel
theorem dX1_readFall_27 : decode cX1_readFall 27 = .ok (.bipush 9, 2) := by decide +kernel
theorem dX1_readFall_29 : decode cX1_readFall 29 = .ok (.invokevirtual 123, 3) := by decide +kernel
theorem dX1_readFall_32 : decode cX1_readFall 32 = .ok (.ifCond .ne 5, 3) := by decide +kernel
theorem dX1_readFall_35 : decode cX1_readFall 35 = .ok (.iconst 0, 1) := by decide +kernel
theorem dX1_readFall_36 : decode cX1_readFall 36 = .ok (.ireturn, 1) := by decide +kernel
theorem dX1_readFall_37 : decode cX1_readFall 37 = .ok (.aload_n 0, 1) := by decide +kernel
theorem dX1_readFall_38 : decode cX1_readFall 38 = .ok (.getfield 40, 3) := by decide +kernel
theorem dX1_readFall_41 : decode cX1_readFall 41 = .ok (.istore_n 3, 1) := by decide +kernel
theorem dX1_readFall_42 : decode cX1_readFall 42 = .ok (.iload_n 3, 1) := by decide +kernel
theorem dX1_readFall_43 : decode cX1_readFall 43 = .ok (.aload_n 0, 1) := by decide +kernel
theorem dX1_readFall_44 : decode cX1_readFall 44 = .ok (.getfield 43, 3) := by decide +kernel
theorem dX1_readFall_47 : decode cX1_readFall 47 = .ok (.if_icmp .gt 31, 3) := by decide +kernel
theorem dX1_readFall_50 : decode cX1_readFall 50 = .ok (.aload_n 1, 1) := by decide +kernel
theorem dX1_readFall_51 : decode cX1_readFall 51 = .ok (.getfield 127, 3) := by decide +kernel
theorem dX1_readFall_54 : decode cX1_readFall 54 = .ok (.iload_n 3, 1) := by decide +kernel
theorem dX1_readFall_55 : decode cX1_readFall 55 = .ok (.iload_n 2, 1) := by decide +kernel
theorem dX1_readFall_56 : decode cX1_readFall 56 = .ok (.ifCond .eq 11, 3) := by decide +kernel
theorem dX1_readFall_59 : decode cX1_readFall 59 = .ok (.aload_n 0, 1) := by decide +kernel
theorem dX1_readFall_60 : decode cX1_readFall 60 = .ok (.getfield 37, 3) := by decide +kernel
theorem dX1_readFall_63 : decode cX1_readFall 63 = .ok (.ineg, 1) := by decide +kernel
theorem dX1_readFall_64 : decode cX1_readFall 64 = .ok (.goto 7, 3) := by decide +kernel
theorem dX1_readFall_67 : decode cX1_readFall 67 = .ok (.aload_n 0, 1) := by decide +kernel
theorem dX1_readFall_68 : decode cX1_readFall 68 = .ok (.getfield 37, 3) := by decide +kernel
theorem dX1_readFall_71 : decode cX1_readFall 71 = .ok (.iastore, 1) := by decide +kernel
theorem dX1_readFall_72 : decode cX1_readFall 72 = .ok (.iinc 3 1, 3) := by decide +kernel
theorem dX1_readFall_75 : decode cX1_readFall 75 = .ok (.goto (-33), 3) := by decide +kernel
theorem dX1_readFall_78 : decode cX1_readFall 78 = .ok (.iconst 1, 1) := by decide +kernel
theorem dX1_readFall_79 : decode cX1_readFall 79 = .ok (.ireturn, 1) := by decide +kernel
theorem dX1_readShut_0 : decode cX1_readShut 0 = .ok (.aload_n 0, 1) := by decide +kernel
theorem dX1_readShut_1 : decode cX1_readShut 1 = .ok (.iconst 0, 1) := by decide +kernel
theorem dX1_readShut_2 : decode cX1_readShut 2 = .ok (.bipush 59, 2) := by decide +kernel
theorem dX1_readShut_4 : decode cX1_readShut 4 = .ok (.invokevirtual 123, 3) := by decide +kernel
theorem dX1_readShut_7 : decode cX1_readShut 7 = .ok (.ifCond .ne 5, 3) := by decide +kernel
theorem dX1_readShut_10 : decode cX1_readShut 10 = .ok (.iconst 0, 1) := by decide +kernel
theorem dX1_readShut_11 : decode cX1_readShut 11 = .ok (.ireturn, 1) := by decide +kernel
theorem dX1_readShut_12 : decode cX1_readShut 12 = .ok (.aload_n 0, 1) := by decide +kernel
theorem dX1_readShut_13 : decode cX1_readShut 13 = .ok (.aload_n 0, 1) := by decide +kernel
theorem dX1_readShut_14 : decode cX1_readShut 14 = .ok (.getfield 37, 3) := by decide +kernel
theorem dX1_readShut_17 : decode cX1_readShut 17 = .ok (.putfield 40, 3) := by decide +kernel
theorem dX1_readShut_20 : decode cX1_readShut 20 = .ok (.aload_n 0, 1) := by decide +kernel
theorem dX1_readShut_21 : decode cX1_readShut 21 = .ok (.ldc 130, 2) := by decide +kernel
theorem dX1_readShut_23 : decode cX1_readShut 23 = .ok (.invokevirtual 82, 3) := by decide +kernel
theorem dX1_readShut_26 : decode cX1_readShut 26 = .ok (.ifCond .eq 13, 3) := by decide +kernel
theorem dX1_readShut_29 : decode cX1_readShut 29 = .ok (.aload_n 0, 1) := by decide +kernel
theorem dX1_readShut_30 : decode cX1_readShut 30 = .ok (.iconst 0, 1) := by decide +kernel
theorem dX1_readShut_31 : decode cX1_readShut 31 = .ok (.bipush 59, 2) := by decide +kernel
theorem dX1_readShut_33 : decode cX1_readShut 33 = .ok (.invokevirtual 123, 3) := by decide +kernel
theorem dX1_readShut_36 : decode cX1_readShut 36 = .ok (.ifCond .ne 5, 3) := by decide +kernel
theorem dX1_readShut_39 : decode cX1_readShut 39 = .ok (.iconst 0, 1) := by decide +kernel
theorem dX1_readShut_40 : decode cX1_readShut 40 = .ok (.ireturn, 1) := by decide +kernel
theorem dX1_readShut_41 : decode cX1_readShut 41 = .ok (.aload_n 1, 1) := by decide +kernel
theorem dX1_readShut_42 : decode cX1_readShut 42 = .ok (.aload_n 0, 1) := by decide +kernel
theorem dX1_readShut_43 : decode cX1_readShut 43 = .ok (.getfield 40, 3) := by decide +kernel
theorem dX1_readShut_46 : decode cX1_readShut 46 = .ok (.putfield 131, 3) := by decide +kernel
theorem dX1_readShut_49 : decode cX1_readShut 49 = .ok (.aload_n 1, 1) := by decide +kernel
theorem dX1_readShut_50 : decode cX1_readShut 50 = .ok (.aload_n 0, 1) := by decide +kernel
theorem dX1_readShut_51 : decode cX1_readShut 51 = .ok (.getfield 37, 3) := by decide +kernel
theorem dX1_readShut_54 : decode cX1_readShut 54 = .ok (.putfield 134, 3) := by decide +kernel
theorem dX1_readShut_57 : decode cX1_readShut 57 = .ok (.iconst 1, 1) := by decide +kernel
theorem dX1_readShut_58 : decode cX1_readShut 58 = .ok (.ireturn, 1) := by decide +kernel
theorem dX1_readThing_0 : decode cX1_readThing 0 = .ok (.aload_n 0, 1) := by decide +kernel
theorem dX1_readThing_1 : decode cX1_readThing 1 = .ok (.invokevirtual 137, 3) := by decide +kernel
theorem dX1_readThing_4 : decode cX1_readThing 4 = .ok (.aload_n 1, 1) := by decide +kernel
theorem dX1_readThing_5 : decode cX1_readThing 5 = .ok (.iload_n 2, 1) := by decide +kernel
theorem dX1_readThing_6 : decode cX1_readThing 6 = .ok (.bipush 10, 2) := by decide +kernel
theorem dX1_readThing_8 : decode cX1_readThing 8 = .ok (.invokevirtual 140, 3) := by decide +kernel
theorem dX1_readThing_11 : decode cX1_readThing 11 = .ok (.aload_n 1, 1) := by decide +kernel
theorem dX1_readThing_12 : decode cX1_readThing 12 = .ok (.getfield 143, 3) := by decide +kernel
theorem dX1_readThing_15 : decode cX1_readThing 15 = .ok (.aload_n 1, 1) := by decide +kernel
theorem dX1_readThing_16 : decode cX1_readThing 16 = .ok (.getfield 147, 3) := by decide +kernel
theorem dX1_readThing_19 : decode cX1_readThing 19 = .ok (.iconst 1, 1) := by decide +kernel
theorem dX1_readThing_20 : decode cX1_readThing 20 = .ok (.isub, 1) := by decide +kernel
theorem dX1_readThing_21 : decode cX1_readThing 21 = .ok (.aaload, 1) := by decide +kernel
theorem dX1_readThing_22 : decode cX1_readThing 22 = .ok (.astore_n 3, 1) := by decide +kernel
theorem dX1_readThing_23 : decode cX1_readThing 23 = .ok (.aload_n 0, 1) := by decide +kernel
theorem dX1_readThing_24 : decode cX1_readThing 24 = .ok (.ldc 148, 2) := by decide +kernel
theorem dX1_readThing_26 : decode cX1_readThing 26 = .ok (.invokevirtual 82, 3) := by decide +kernel
theorem dX1_readThing_29 : decode cX1_readThing 29 = .ok (.ifCond .eq 23, 3) := by decide +kernel
theorem dX1_readThing_32 : decode cX1_readThing 32 = .ok (.aload_n 0, 1) := by decide +kernel
theorem dX1_readThing_33 : decode cX1_readThing 33 = .ok (.iconst 1, 1) := by decide +kernel
theorem dX1_readThing_34 : decode cX1_readThing 34 = .ok (.bipush 99, 2) := by decide +kernel
theorem dX1_readThing_36 : decode cX1_readThing 36 = .ok (.invokevirtual 123, 3) := by decide +kernel
theorem dX1_readThing_39 : decode cX1_readThing 39 = .ok (.ifCond .ne 5, 3) := by decide +kernel
theorem dX1_readThing_42 : decode cX1_readThing 42 = .ok (.iconst 0, 1) := by decide +kernel
theorem dX1_readThing_43 : decode cX1_readThing 43 = .ok (.ireturn, 1) := by decide +kernel
theorem dX1_readThing_44 : decode cX1_readThing 44 = .ok (.aload_n 3, 1) := by decide +kernel
theorem dX1_readThing_45 : decode cX1_readThing 45 = .ok (.aload_n 0, 1) := by decide +kernel
theorem dX1_readThing_46 : decode cX1_readThing 46 = .ok (.getfield 37, 3) := by decide +kernel
theorem dX1_readThing_49 : decode cX1_readThing 49 = .ok (.putfield 150, 3) := by decide +kernel
theorem dX1_readThing_52 : decode cX1_readThing 52 = .ok (.aload_n 0, 1) := by decide +kernel
theorem dX1_readThing_53 : decode cX1_readThing 53 = .ok (.ldc 154, 2) := by decide +kernel
theorem dX1_readThing_55 : decode cX1_readThing 55 = .ok (.invokevirtual 82, 3) := by decide +kernel
theorem dX1_readThing_58 : decode cX1_readThing 58 = .ok (.ifCond .eq 23, 3) := by decide +kernel
theorem dX1_readThing_61 : decode cX1_readThing 61 = .ok (.aload_n 0, 1) := by decide +kernel
theorem dX1_readThing_62 : decode cX1_readThing 62 = .ok (.iconst 1, 1) := by decide +kernel
theorem dX1_readThing_63 : decode cX1_readThing 63 = .ok (.bipush 9, 2) := by decide +kernel
theorem dX1_readThing_65 : decode cX1_readThing 65 = .ok (.invokevirtual 123, 3) := by decide +kernel
theorem dX1_readThing_68 : decode cX1_readThing 68 = .ok (.ifCond .ne 5, 3) := by decide +kernel
theorem dX1_readThing_71 : decode cX1_readThing 71 = .ok (.iconst 0, 1) := by decide +kernel
theorem dX1_readThing_72 : decode cX1_readThing 72 = .ok (.ireturn, 1) := by decide +kernel
theorem dX1_readThing_73 : decode cX1_readThing 73 = .ok (.aload_n 3, 1) := by decide +kernel
theorem dX1_readThing_74 : decode cX1_readThing 74 = .ok (.aload_n 0, 1) := by decide +kernel
theorem dX1_readThing_75 : decode cX1_readThing 75 = .ok (.getfield 37, 3) := by decide +kernel
theorem dX1_readThing_78 : decode cX1_readThing 78 = .ok (.putfield 156, 3) := by decide +kernel
theorem dX1_readThing_81 : decode cX1_readThing 81 = .ok (.aload_n 0, 1) := by decide +kernel
theorem dX1_readThing_82 : decode cX1_readThing 82 = .ok (.ldc 158, 2) := by decide +kernel
theorem dX1_readThing_84 : decode cX1_readThing 84 = .ok (.invokevirtual 82, 3) := by decide +kernel
theorem dX1_readThing_87 : decode cX1_readThing 87 = .ok (.ifCond .eq 23, 3) := by decide +kernel
theorem dX1_readThing_90 : decode cX1_readThing 90 = .ok (.aload_n 0, 1) := by decide +kernel
theorem dX1_readThing_91 : decode cX1_readThing 91 = .ok (.iconst 0, 1) := by decide +kernel
theorem dX1_readThing_92 : decode cX1_readThing 92 = .ok (.bipush 9, 2) := by decide +kernel
theorem dX1_readThing_94 : decode cX1_readThing 94 = .ok (.invokevirtual 123, 3) := by decide +kernel
theorem dX1_readThing_97 : decode cX1_readThing 97 = .ok (.ifCond .ne 5, 3) := by decide +kernel
theorem dX1_readThing_100 : decode cX1_readThing 100 = .ok (.iconst 0, 1) := by decide +kernel
theorem dX1_readThing_101 : decode cX1_readThing 101 = .ok (.ireturn, 1) := by decide +kernel
theorem dX1_readThing_102 : decode cX1_readThing 102 = .ok (.aload_n 3, 1) := by decide +kernel
theorem dX1_readThing_103 : decode cX1_readThing 103 = .ok (.aload_n 0, 1) := by decide +kernel
theorem dX1_readThing_104 : decode cX1_readThing 104 = .ok (.getfield 37, 3) := by decide +kernel
theorem dX1_readThing_107 : decode cX1_readThing 107 = .ok (.putfield 160, 3) := by decide +kernel
theorem dX1_readThing_110 : decode cX1_readThing 110 = .ok (.iconst 1, 1) := by decide +kernel
theorem dX1_readThing_111 : decode cX1_readThing 111 = .ok (.ireturn, 1) := by decide +kernel
theorem dX1_takeCells_0 : decode cX1_takeCells 0 = .ok (.aload_n 0, 1) := by decide +kernel
theorem dX1_takeCells_1 : decode cX1_takeCells 1 = .ok (.iconst 0, 1) := by decide +kernel
theorem dX1_takeCells_2 : decode cX1_takeCells 2 = .ok (.bipush 30, 2) := by decide +kernel
theorem dX1_takeCells_4 : decode cX1_takeCells 4 = .ok (.invokevirtual 123, 3) := by decide +kernel
theorem dX1_takeCells_7 : decode cX1_takeCells 7 = .ok (.ifCond .ne 5, 3) := by decide +kernel
theorem dX1_takeCells_10 : decode cX1_takeCells 10 = .ok (.iconst 0, 1) := by decide +kernel
theorem dX1_takeCells_11 : decode cX1_takeCells 11 = .ok (.ireturn, 1) := by decide +kernel
theorem dX1_takeCells_12 : decode cX1_takeCells 12 = .ok (.aload_n 0, 1) := by decide +kernel
theorem dX1_takeCells_13 : decode cX1_takeCells 13 = .ok (.aload_n 0, 1) := by decide +kernel
theorem dX1_takeCells_14 : decode cX1_takeCells 14 = .ok (.getfield 37, 3) := by decide +kernel
theorem dX1_takeCells_17 : decode cX1_takeCells 17 = .ok (.putfield 40, 3) := by decide +kernel
theorem dX1_takeCells_20 : decode cX1_takeCells 20 = .ok (.aload_n 0, 1) := by decide +kernel
theorem dX1_takeCells_21 : decode cX1_takeCells 21 = .ok (.aload_n 0, 1) := by decide +kernel
theorem dX1_takeCells_22 : decode cX1_takeCells 22 = .ok (.getfield 37, 3) := by decide +kernel
theorem dX1_takeCells_25 : decode cX1_takeCells 25 = .ok (.putfield 43, 3) := by decide +kernel
theorem dX1_takeCells_28 : decode cX1_takeCells 28 = .ok (.aload_n 0, 1) := by decide +kernel
theorem dX1_takeCells_29 : decode cX1_takeCells 29 = .ok (.ldc 130, 2) := by decide +kernel
theorem dX1_takeCells_31 : decode cX1_takeCells 31 = .ok (.invokevirtual 82, 3) := by decide +kernel
theorem dX1_takeCells_34 : decode cX1_takeCells 34 = .ok (.ifCond .ne 5, 3) := by decide +kernel
theorem dX1_takeCells_37 : decode cX1_takeCells 37 = .ok (.iconst 1, 1) := by decide +kernel
theorem dX1_takeCells_38 : decode cX1_takeCells 38 = .ok (.ireturn, 1) := by decide +kernel
theorem dX1_takeCells_39 : decode cX1_takeCells 39 = .ok (.aload_n 0, 1) := by decide +kernel
theorem dX1_takeCells_40 : decode cX1_takeCells 40 = .ok (.aload_n 0, 1) := by decide +kernel
theorem dX1_takeCells_41 : decode cX1_takeCells 41 = .ok (.getfield 40, 3) := by decide +kernel
theorem dX1_takeCells_44 : decode cX1_takeCells 44 = .ok (.bipush 30, 2) := by decide +kernel
theorem dX1_takeCells_46 : decode cX1_takeCells 46 = .ok (.invokevirtual 123, 3) := by decide +kernel
theorem dX1_takeCells_49 : decode cX1_takeCells 49 = .ok (.ifCond .ne 5, 3) := by decide +kernel
theorem dX1_takeCells_52 : decode cX1_takeCells 52 = .ok (.iconst 0, 1) := by decide +kernel
theorem dX1_takeCells_53 : decode cX1_takeCells 53 = .ok (.ireturn, 1) := by decide +kernel
theorem dX1_takeCells_54 : decode cX1_takeCells 54 = .ok (.aload_n 0, 1) := by decide +kernel
theorem dX1_takeCells_55 : decode cX1_takeCells 55 = .ok (.aload_n 0, 1) := by decide +kernel
theorem dX1_takeCells_56 : decode cX1_takeCells 56 = .ok (.getfield 37, 3) := by decide +kernel
theorem dX1_takeCells_59 : decode cX1_takeCells 59 = .ok (.putfield 43, 3) := by decide +kernel
theorem dX1_takeCells_62 : decode cX1_takeCells 62 = .ok (.iconst 1, 1) := by decide +kernel
theorem dX1_takeCells_63 : decode cX1_takeCells 63 = .ok (.ireturn, 1) := by decide +kernel
theorem dX1_takeWord_0 : decode cX1_takeWord 0 = .ok (.aload_n 0, 1) := by decide +kernel
theorem dX1_takeWord_1 : decode cX1_takeWord 1 = .ok (.aload_n 1, 1) := by decide +kernel
theorem dX1_takeWord_2 : decode cX1_takeWord 2 = .ok (.invokevirtual 93, 3) := by decide +kernel
theorem dX1_takeWord_5 : decode cX1_takeWord 5 = .ok (.istore_n 2, 1) := by decide +kernel
theorem dX1_takeWord_6 : decode cX1_takeWord 6 = .ok (.iload_n 2, 1) := by decide +kernel
theorem dX1_takeWord_7 : decode cX1_takeWord 7 = .ok (.ifCond .eq 7, 3) := by decide +kernel
theorem dX1_takeWord_10 : decode cX1_takeWord 10 = .ok (.aload_n 0, 1) := by decide +kernel
theorem dX1_takeWord_11 : decode cX1_takeWord 11 = .ok (.invokevirtual 137, 3) := by decide +kernel
theorem dX1_takeWord_14 : decode cX1_takeWord 14 = .ok (.iload_n 2, 1) := by decide +kernel
theorem dX1_takeWord_15 : decode cX1_takeWord 15 = .ok (.ireturn, 1) := by decide +kernel
theorem dX1_isWord_0 : decode cX1_isWord 0 = .ok (.aload_n 0, 1) := by decide +kernel
theorem dX1_isWord_1 : decode cX1_isWord 1 = .ok (.getfield 25, 3) := by decide +kernel
theorem dX1_isWord_4 : decode cX1_isWord 4 = .ok (.aload_n 0, 1) := by decide +kernel
theorem dX1_isWord_5 : decode cX1_isWord 5 = .ok (.getfield 34, 3) := by decide +kernel
theorem dX1_isWord_8 : decode cX1_isWord 8 = .ok (.iaload, 1) := by decide +kernel
theorem dX1_isWord_9 : decode cX1_isWord 9 = .ok (.iconst 1, 1) := by decide +kernel
theorem dX1_isWord_10 : decode cX1_isWord 10 = .ok (.if_icmp .ne 29, 3) := by decide +kernel
theorem dX1_isWord_13 : decode cX1_isWord 13 = .ok (.aload_n 0, 1) := by decide +kernel
theorem dX1_isWord_14 : decode cX1_isWord 14 = .ok (.getfield 22, 3) := by decide +kernel
theorem dX1_isWord_17 : decode cX1_isWord 17 = .ok (.aload_n 0, 1) := by decide +kernel
theorem dX1_isWord_18 : decode cX1_isWord 18 = .ok (.getfield 34, 3) := by decide +kernel
theorem dX1_isWord_21 : decode cX1_isWord 21 = .ok (.iaload, 1) := by decide +kernel
theorem dX1_isWord_22 : decode cX1_isWord 22 = .ok (.aload_n 0, 1) := by decide +kernel
theorem dX1_isWord_23 : decode cX1_isWord 23 = .ok (.getfield 19, 3) := by decide +kernel
theorem dX1_isWord_26 : decode cX1_isWord 26 = .ok (.aload_n 0, 1) := by decide +kernel
theorem dX1_isWord_27 : decode cX1_isWord 27 = .ok (.getfield 34, 3) := by decide +kernel
theorem dX1_isWord_30 : decode cX1_isWord 30 = .ok (.iaload, 1) := by decide +kernel
theorem dX1_isWord_31 : decode cX1_isWord 31 = .ok (.isub, 1) := by decide +kernel
theorem dX1_isWord_32 : decode cX1_isWord 32 = .ok (.aload_n 1, 1) := by decide +kernel
theorem dX1_isWord_33 : decode cX1_isWord 33 = .ok (.invokevirtual 162, 3) := by decide +kernel
theorem dX1_isWord_36 : decode cX1_isWord 36 = .ok (.if_icmp .eq 5, 3) := by decide +kernel
theorem dX1_isWord_39 : decode cX1_isWord 39 = .ok (.iconst 0, 1) := by decide +kernel
theorem dX1_isWord_40 : decode cX1_isWord 40 = .ok (.ireturn, 1) := by decide +kernel
theorem dX1_isWord_41 : decode cX1_isWord 41 = .ok (.iconst 0, 1) := by decide +kernel
theorem dX1_isWord_42 : decode cX1_isWord 42 = .ok (.istore_n 2, 1) := by decide +kernel
theorem dX1_isWord_43 : decode cX1_isWord 43 = .ok (.iload_n 2, 1) := by decide +kernel
theorem dX1_isWord_44 : decode cX1_isWord 44 = .ok (.aload_n 1, 1) := by decide +kernel
theorem dX1_isWord_45 : decode cX1_isWord 45 = .ok (.invokevirtual 162, 3) := by decide +kernel
theorem dX1_isWord_48 : decode cX1_isWord 48 = .ok (.if_icmp .ge 35, 3) := by decide +kernel
theorem dX1_isWord_51 : decode cX1_isWord 51 = .ok (.aload_n 0, 1) := by decide +kernel
theorem dX1_isWord_52 : decode cX1_isWord 52 = .ok (.getfield 9, 3) := by decide +kernel
theorem dX1_isWord_55 : decode cX1_isWord 55 = .ok (.aload_n 0, 1) := by decide +kernel
theorem dX1_isWord_56 : decode cX1_isWord 56 = .ok (.getfield 19, 3) := by decide +kernel
theorem dX1_isWord_59 : decode cX1_isWord 59 = .ok (.aload_n 0, 1) := by decide +kernel
theorem dX1_isWord_60 : decode cX1_isWord 60 = .ok (.getfield 34, 3) := by decide +kernel
theorem dX1_isWord_63 : decode cX1_isWord 63 = .ok (.iaload, 1) := by decide +kernel
theorem dX1_isWord_64 : decode cX1_isWord 64 = .ok (.iload_n 2, 1) := by decide +kernel
theorem dX1_isWord_65 : decode cX1_isWord 65 = .ok (.iadd, 1) := by decide +kernel
theorem dX1_isWord_66 : decode cX1_isWord 66 = .ok (.iaload, 1) := by decide +kernel
theorem dX1_isWord_67 : decode cX1_isWord 67 = .ok (.aload_n 1, 1) := by decide +kernel
theorem dX1_isWord_68 : decode cX1_isWord 68 = .ok (.iload_n 2, 1) := by decide +kernel
theorem dX1_isWord_69 : decode cX1_isWord 69 = .ok (.invokevirtual 168, 3) := by decide +kernel
theorem dX1_isWord_72 : decode cX1_isWord 72 = .ok (.if_icmp .eq 5, 3) := by decide +kernel
theorem dX1_isWord_75 : decode cX1_isWord 75 = .ok (.iconst 0, 1) := by decide +kernel
theorem dX1_isWord_76 : decode cX1_isWord 76 = .ok (.ireturn, 1) := by decide +kernel
theorem dX1_isWord_77 : decode cX1_isWord 77 = .ok (.iinc 2 1, 3) := by decide +kernel
theorem dX1_isWord_80 : decode cX1_isWord 80 = .ok (.goto (-37), 3) := by decide +kernel
theorem dX1_isWord_83 : decode cX1_isWord 83 = .ok (.iconst 1, 1) := by decide +kernel
theorem dX1_isWord_84 : decode cX1_isWord 84 = .ok (.ireturn, 1) := by decide +kernel
theorem dX1_takeNumber_0 : decode cX1_takeNumber 0 = .ok (.aload_n 0, 1) := by decide +kernel
theorem dX1_takeNumber_1 : decode cX1_takeNumber 1 = .ok (.getfield 25, 3) := by decide +kernel
theorem dX1_takeNumber_4 : decode cX1_takeNumber 4 = .ok (.aload_n 0, 1) := by decide +kernel
theorem dX1_takeNumber_5 : decode cX1_takeNumber 5 = .ok (.getfield 34, 3) := by decide +kernel
theorem dX1_takeNumber_8 : decode cX1_takeNumber 8 = .ok (.iaload, 1) := by decide +kernel
theorem dX1_takeNumber_9 : decode cX1_takeNumber 9 = .ok (.iconst 2, 1) := by decide +kernel
theorem dX1_takeNumber_10 : decode cX1_takeNumber 10 = .ok (.if_icmp .ne 20, 3) := by decide +kernel
theorem dX1_takeNumber_13 : decode cX1_takeNumber 13 = .ok (.aload_n 0, 1) := by decide +kernel
theorem dX1_takeNumber_14 : decode cX1_takeNumber 14 = .ok (.getfield 28, 3) := by decide +kernel
theorem dX1_takeNumber_17 : decode cX1_takeNumber 17 = .ok (.aload_n 0, 1) := by decide +kernel
theorem dX1_takeNumber_18 : decode cX1_takeNumber 18 = .ok (.getfield 34, 3) := by decide +kernel
theorem dX1_takeNumber_21 : decode cX1_takeNumber 21 = .ok (.iaload, 1) := by decide +kernel
theorem dX1_takeNumber_22 : decode cX1_takeNumber 22 = .ok (.iload_n 1, 1) := by decide +kernel
theorem dX1_takeNumber_23 : decode cX1_takeNumber 23 = .ok (.iload_n 2, 1) := by decide +kernel
theorem dX1_takeNumber_24 : decode cX1_takeNumber 24 = .ok (.invokestatic 74, 3) := by decide +kernel
theorem dX1_takeNumber_27 : decode cX1_takeNumber 27 = .ok (.ifCond .ne 5, 3) := by decide +kernel
theorem dX1_takeNumber_30 : decode cX1_takeNumber 30 = .ok (.iconst 0, 1) := by decide +kernel
theorem dX1_takeNumber_31 : decode cX1_takeNumber 31 = .ok (.ireturn, 1) := by decide +kernel
theorem dX1_takeNumber_32 : decode cX1_takeNumber 32 = .ok (.aload_n 0, 1) := by decide +kernel
theorem dX1_takeNumber_33 : decode cX1_takeNumber 33 = .ok (.aload_n 0, 1) := by decide +kernel
theorem dX1_takeNumber_34 : decode cX1_takeNumber 34 = .ok (.getfield 28, 3) := by decide +kernel
theorem dX1_takeNumber_37 : decode cX1_takeNumber 37 = .ok (.aload_n 0, 1) := by decide +kernel
theorem dX1_takeNumber_38 : decode cX1_takeNumber 38 = .ok (.getfield 34, 3) := by decide +kernel
theorem dX1_takeNumber_41 : decode cX1_takeNumber 41 = .ok (.iaload, 1) := by decide +kernel
theorem dX1_takeNumber_42 : decode cX1_takeNumber 42 = .ok (.putfield 37, 3) := by decide +kernel
theorem dX1_takeNumber_45 : decode cX1_takeNumber 45 = .ok (.aload_n 0, 1) := by decide +kernel
theorem dX1_takeNumber_46 : decode cX1_takeNumber 46 = .ok (.invokevirtual 137, 3) := by decide +kernel
theorem dX1_takeNumber_49 : decode cX1_takeNumber 49 = .ok (.iconst 1, 1) := by decide +kernel
theorem dX1_takeNumber_50 : decode cX1_takeNumber 50 = .ok (.ireturn, 1) := by decide +kernel
theorem dX1_takeSign_0 : decode cX1_takeSign 0 = .ok (.aload_n 0, 1) := by decide +kernel
theorem dX1_takeSign_1 : decode cX1_takeSign 1 = .ok (.getfield 25, 3) := by decide +kernel
theorem dX1_takeSign_4 : decode cX1_takeSign 4 = .ok (.aload_n 0, 1) := by decide +kernel
theorem dX1_takeSign_5 : decode cX1_takeSign 5 = .ok (.getfield 34, 3) := by decide +kernel
theorem dX1_takeSign_8 : decode cX1_takeSign 8 = .ok (.iaload, 1) := by decide +kernel
theorem dX1_takeSign_9 : decode cX1_takeSign 9 = .ok (.iconst 3, 1) := by decide +kernel
theorem dX1_takeSign_10 : decode cX1_takeSign 10 = .ok (.if_icmp .ne 25, 3) := by decide +kernel
theorem dX1_takeSign_13 : decode cX1_takeSign 13 = .ok (.aload_n 0, 1) := by decide +kernel
theorem dX1_takeSign_14 : decode cX1_takeSign 14 = .ok (.getfield 9, 3) := by decide +kernel
theorem dX1_takeSign_17 : decode cX1_takeSign 17 = .ok (.aload_n 0, 1) := by decide +kernel
theorem dX1_takeSign_18 : decode cX1_takeSign 18 = .ok (.getfield 19, 3) := by decide +kernel
theorem dX1_takeSign_21 : decode cX1_takeSign 21 = .ok (.aload_n 0, 1) := by decide +kernel
theorem dX1_takeSign_22 : decode cX1_takeSign 22 = .ok (.getfield 34, 3) := by decide +kernel
theorem dX1_takeSign_25 : decode cX1_takeSign 25 = .ok (.iaload, 1) := by decide +kernel
theorem dX1_takeSign_26 : decode cX1_takeSign 26 = .ok (.iaload, 1) := by decide +kernel
theorem dX1_takeSign_27 : decode cX1_takeSign 27 = .ok (.iload_n 1, 1) := by decide +kernel
theorem dX1_takeSign_28 : decode cX1_takeSign 28 = .ok (.if_icmp .ne 7, 3) := by decide +kernel
theorem dX1_takeSign_31 : decode cX1_takeSign 31 = .ok (.iconst 1, 1) := by decide +kernel
theorem dX1_takeSign_32 : decode cX1_takeSign 32 = .ok (.goto 4, 3) := by decide +kernel
theorem dX1_takeSign_35 : decode cX1_takeSign 35 = .ok (.iconst 0, 1) := by decide +kernel
theorem dX1_takeSign_36 : decode cX1_takeSign 36 = .ok (.istore_n 2, 1) := by decide +kernel
theorem dX1_takeSign_37 : decode cX1_takeSign 37 = .ok (.iload_n 2, 1) := by decide +kernel
theorem dX1_takeSign_38 : decode cX1_takeSign 38 = .ok (.ifCond .eq 7, 3) := by decide +kernel
theorem dX1_takeSign_41 : decode cX1_takeSign 41 = .ok (.aload_n 0, 1) := by decide +kernel
theorem dX1_takeSign_42 : decode cX1_takeSign 42 = .ok (.invokevirtual 137, 3) := by decide +kernel
theorem dX1_takeSign_45 : decode cX1_takeSign 45 = .ok (.iload_n 2, 1) := by decide +kernel
theorem dX1_takeSign_46 : decode cX1_takeSign 46 = .ok (.ireturn, 1) := by decide +kernel
theorem dX1_goOn_0 : decode cX1_goOn 0 = .ok (.aload_n 0, 1) := by decide +kernel
theorem dX1_goOn_1 : decode cX1_goOn 1 = .ok (.getfield 34, 3) := by decide +kernel
theorem dX1_goOn_4 : decode cX1_goOn 4 = .ok (.aload_n 0, 1) := by decide +kernel
theorem dX1_goOn_5 : decode cX1_goOn 5 = .ok (.getfield 31, 3) := by decide +kernel
theorem dX1_goOn_8 : decode cX1_goOn 8 = .ok (.iconst 1, 1) := by decide +kernel
theorem dX1_goOn_9 : decode cX1_goOn 9 = .ok (.isub, 1) := by decide +kernel
theorem dX1_goOn_10 : decode cX1_goOn 10 = .ok (.if_icmp .ge 13, 3) := by decide +kernel
theorem dX1_goOn_13 : decode cX1_goOn 13 = .ok (.aload_n 0, 1) := by decide +kernel
theorem dX1_goOn_14 : decode cX1_goOn 14 = .ok (.dup, 1) := by decide +kernel
theorem dX1_goOn_15 : decode cX1_goOn 15 = .ok (.getfield 34, 3) := by decide +kernel
theorem dX1_goOn_18 : decode cX1_goOn 18 = .ok (.iconst 1, 1) := by decide +kernel
theorem dX1_goOn_19 : decode cX1_goOn 19 = .ok (.iadd, 1) := by decide +kernel
theorem dX1_goOn_20 : decode cX1_goOn 20 = .ok (.putfield 34, 3) := by decide +kernel
theorem dX1_goOn_23 : decode cX1_goOn 23 = .ok (.return_, 1) := by decide +kernel
theorem dX1_nameOfGround_0 : decode cX1_nameOfGround 0 = .ok (.iload_n 0, 1) := by decide +kernel
theorem dX1_nameOfGround_1 : decode cX1_nameOfGround 1 = .ok (.tableswitch 43 0 3 #[31, 34, 37, 40], 31) := by decide +kernel
theorem dX1_nameOfGround_32 : decode cX1_nameOfGround 32 = .ok (.ldc 172, 2) := by decide +kernel
theorem dX1_nameOfGround_34 : decode cX1_nameOfGround 34 = .ok (.areturn, 1) := by decide +kernel
theorem dX1_nameOfGround_35 : decode cX1_nameOfGround 35 = .ok (.ldc 174, 2) := by decide +kernel
theorem dX1_nameOfGround_37 : decode cX1_nameOfGround 37 = .ok (.areturn, 1) := by decide +kernel
theorem dX1_nameOfGround_38 : decode cX1_nameOfGround 38 = .ok (.ldc 176, 2) := by decide +kernel
theorem dX1_nameOfGround_40 : decode cX1_nameOfGround 40 = .ok (.areturn, 1) := by decide +kernel
theorem dX1_nameOfGround_41 : decode cX1_nameOfGround 41 = .ok (.ldc 178, 2) := by decide +kernel
theorem dX1_nameOfGround_43 : decode cX1_nameOfGround 43 = .ok (.areturn, 1) := by decide +kernel
theorem dX1_nameOfGround_44 : decode cX1_nameOfGround 44 = .ok (.ldc 180, 2) := by decide +kernel
theorem dX1_nameOfGround_46 : decode cX1_nameOfGround 46 = .ok (.areturn, 1) := by decide +kernel
theorem dX1_nameOfKind_0 : decode cX1_nameOfKind 0 = .ok (.iload_n 0, 1) := by decide +kernel
theorem dX1_nameOfKind_1 : decode cX1_nameOfKind 1 = .ok (.tableswitch 57 0 5 #[39, 42, 45, 48, 51, 54], 39) := by decide +kernel
theorem dX1_nameOfKind_40 : decode cX1_nameOfKind 40 = .ok (.ldc 182, 2) := by decide +kernel
theorem dX1_nameOfKind_42 : decode cX1_nameOfKind 42 = .ok (.areturn, 1) := by decide +kernel
theorem dX1_nameOfKind_43 : decode cX1_nameOfKind 43 = .ok (.ldc 184, 2) := by decide +kernel
theorem dX1_nameOfKind_45 : decode cX1_nameOfKind 45 = .ok (.areturn, 1) := by decide +kernel
theorem dX1_nameOfKind_46 : decode cX1_nameOfKind 46 = .ok (.ldc 186, 2) := by decide +kernel
theorem dX1_nameOfKind_48 : decode cX1_nameOfKind 48 = .ok (.areturn, 1) := by decide +kernel
theorem dX1_nameOfKind_49 : decode cX1_nameOfKind 49 = .ok (.ldc 188, 2) := by decide +kernel
theorem dX1_nameOfKind_51 : decode cX1_nameOfKind 51 = .ok (.areturn, 1) := by decide +kernel
theorem dX1_nameOfKind_52 : decode cX1_nameOfKind 52 = .ok (.ldc 190, 2) := by decide +kernel
theorem dX1_nameOfKind_54 : decode cX1_nameOfKind 54 = .ok (.areturn, 1) := by decide +kernel
theorem dX1_nameOfKind_55 : decode cX1_nameOfKind 55 = .ok (.ldc 192, 2) := by decide +kernel
theorem dX1_nameOfKind_57 : decode cX1_nameOfKind 57 = .ok (.areturn, 1) := by decide +kernel
theorem dX1_nameOfKind_58 : decode cX1_nameOfKind 58 = .ok (.ldc 194, 2) := by decide +kernel
theorem dX1_nameOfKind_60 : decode cX1_nameOfKind 60 = .ok (.areturn, 1) := by decide +kernel
