theorem dX0_init_0 : decode cX0_init 0 = .ok (.aload_n 0, 1) := by decide +kernel
theorem dX0_init_1 : decode cX0_init 1 = .ok (.invokespecial 3, 3) := by decide +kernel
theorem dX0_init_4 : decode cX0_init 4 = .ok (.aload_n 0, 1) := by decide +kernel
theorem dX0_init_5 : decode cX0_init 5 = .ok (.sipush 512, 3) := by decide +kernel
theorem dX0_init_8 : decode cX0_init 8 = .ok (.newarray .int, 2) := by decide +kernel
theorem dX0_init_10 : decode cX0_init 10 = .ok (.putfield 9, 3) := by decide +kernel
theorem dX0_init_13 : decode cX0_init 13 = .ok (.aload_n 0, 1) := by decide +kernel
theorem dX0_init_14 : decode cX0_init 14 = .ok (.sipush 512, 3) := by decide +kernel
theorem dX0_init_17 : decode cX0_init 17 = .ok (.newarray .int, 2) := by decide +kernel
theorem dX0_init_19 : decode cX0_init 19 = .ok (.putfield 15, 3) := by decide +kernel
theorem dX0_init_22 : decode cX0_init 22 = .ok (.aload_n 0, 1) := by decide +kernel
theorem dX0_init_23 : decode cX0_init 23 = .ok (.sipush 512, 3) := by decide +kernel
theorem dX0_init_26 : decode cX0_init 26 = .ok (.newarray .int, 2) := by decide +kernel
theorem dX0_init_28 : decode cX0_init 28 = .ok (.putfield 18, 3) := by decide +kernel
theorem dX0_init_31 : decode cX0_init 31 = .ok (.aload_n 0, 1) := by decide +kernel
theorem dX0_init_32 : decode cX0_init 32 = .ok (.iconst 0, 1) := by decide +kernel
theorem dX0_init_33 : decode cX0_init 33 = .ok (.putfield 21, 3) := by decide +kernel
theorem dX0_init_36 : decode cX0_init 36 = .ok (.return_, 1) := by decide +kernel
theorem dX0_add_0 : decode cX0_add 0 = .ok (.aload_n 0, 1) := by decide +kernel
theorem dX0_add_1 : decode cX0_add 1 = .ok (.getfield 9, 3) := by decide +kernel
theorem dX0_add_4 : decode cX0_add 4 = .ok (.aload_n 0, 1) := by decide +kernel
theorem dX0_add_5 : decode cX0_add 5 = .ok (.getfield 21, 3) := by decide +kernel
theorem dX0_add_8 : decode cX0_add 8 = .ok (.iload_n 1, 1) := by decide +kernel
theorem dX0_add_9 : decode cX0_add 9 = .ok (.iastore, 1) := by decide +kernel
theorem dX0_add_10 : decode cX0_add 10 = .ok (.aload_n 0, 1) := by decide +kernel
theorem dX0_add_11 : decode cX0_add 11 = .ok (.getfield 15, 3) := by decide +kernel
theorem dX0_add_14 : decode cX0_add 14 = .ok (.aload_n 0, 1) := by decide +kernel
theorem dX0_add_15 : decode cX0_add 15 = .ok (.getfield 21, 3) := by decide +kernel
theorem dX0_add_18 : decode cX0_add 18 = .ok (.iload_n 2, 1) := by decide +kernel
theorem dX0_add_19 : decode cX0_add 19 = .ok (.iastore, 1) := by decide +kernel
theorem dX0_add_20 : decode cX0_add 20 = .ok (.aload_n 0, 1) := by decide +kernel
theorem dX0_add_21 : decode cX0_add 21 = .ok (.getfield 18, 3) := by decide +kernel
theorem dX0_add_24 : decode cX0_add 24 = .ok (.aload_n 0, 1) := by decide +kernel
theorem dX0_add_25 : decode cX0_add 25 = .ok (.getfield 21, 3) := by decide +kernel
theorem dX0_add_28 : decode cX0_add 28 = .ok (.iload_n 3, 1) := by decide +kernel
theorem dX0_add_29 : decode cX0_add 29 = .ok (.iastore, 1) := by decide +kernel
theorem dX0_add_30 : decode cX0_add 30 = .ok (.aload_n 0, 1) := by decide +kernel
theorem dX0_add_31 : decode cX0_add 31 = .ok (.dup, 1) := by decide +kernel
theorem dX0_add_32 : decode cX0_add 32 = .ok (.getfield 21, 3) := by decide +kernel
theorem dX0_add_35 : decode cX0_add 35 = .ok (.iconst 1, 1) := by decide +kernel
theorem dX0_add_36 : decode cX0_add 36 = .ok (.iadd, 1) := by decide +kernel
theorem dX0_add_37 : decode cX0_add 37 = .ok (.putfield 21, 3) := by decide +kernel
theorem dX0_add_40 : decode cX0_add 40 = .ok (.return_, 1) := by decide +kernel
theorem dX0_redo_0 : decode cX0_redo 0 = .ok (.iconst 0, 1) := by decide +kernel
theorem dX0_redo_1 : decode cX0_redo 1 = .ok (.istore_n 3, 1) := by decide +kernel
theorem dX0_redo_2 : decode cX0_redo 2 = .ok (.iload_n 3, 1) := by decide +kernel
theorem dX0_redo_3 : decode cX0_redo 3 = .ok (.iload_n 2, 1) := by decide +kernel
theorem dX0_redo_4 : decode cX0_redo 4 = .ok (.if_icmp .ge 85, 3) := by decide +kernel
theorem dX0_redo_7 : decode cX0_redo 7 = .ok (.aload_n 0, 1) := by decide +kernel
theorem dX0_redo_8 : decode cX0_redo 8 = .ok (.getfield 9, 3) := by decide +kernel
theorem dX0_redo_11 : decode cX0_redo 11 = .ok (.iload_n 3, 1) := by decide +kernel
theorem dX0_redo_12 : decode cX0_redo 12 = .ok (.iaload, 1) := by decide +kernel
theorem dX0_redo_13 : decode cX0_redo 13 = .ok (.iconst (-1), 1) := by decide +kernel
theorem dX0_redo_14 : decode cX0_redo 14 = .ok (.if_icmp .ne 23, 3) := by decide +kernel
theorem dX0_redo_17 : decode cX0_redo 17 = .ok (.aload_n 1, 1) := by decide +kernel
theorem dX0_redo_18 : decode cX0_redo 18 = .ok (.aload_n 0, 1) := by decide +kernel
theorem dX0_redo_19 : decode cX0_redo 19 = .ok (.getfield 15, 3) := by decide +kernel
theorem dX0_redo_22 : decode cX0_redo 22 = .ok (.iload_n 3, 1) := by decide +kernel
theorem dX0_redo_23 : decode cX0_redo 23 = .ok (.iaload, 1) := by decide +kernel
theorem dX0_redo_24 : decode cX0_redo 24 = .ok (.aload_n 0, 1) := by decide +kernel
theorem dX0_redo_25 : decode cX0_redo 25 = .ok (.getfield 18, 3) := by decide +kernel
theorem dX0_redo_28 : decode cX0_redo 28 = .ok (.iload_n 3, 1) := by decide +kernel
theorem dX0_redo_29 : decode cX0_redo 29 = .ok (.iaload, 1) := by decide +kernel
theorem dX0_redo_30 : decode cX0_redo 30 = .ok (.invokevirtual 25, 3) := by decide +kernel
theorem dX0_redo_33 : decode cX0_redo 33 = .ok (.pop, 1) := by decide +kernel
theorem dX0_redo_34 : decode cX0_redo 34 = .ok (.goto 49, 3) := by decide +kernel
theorem dX0_redo_37 : decode cX0_redo 37 = .ok (.aload_n 0, 1) := by decide +kernel
theorem dX0_redo_38 : decode cX0_redo 38 = .ok (.getfield 15, 3) := by decide +kernel
theorem dX0_redo_41 : decode cX0_redo 41 = .ok (.iload_n 3, 1) := by decide +kernel
theorem dX0_redo_42 : decode cX0_redo 42 = .ok (.iaload, 1) := by decide +kernel
theorem dX0_redo_43 : decode cX0_redo 43 = .ok (.iconst (-1), 1) := by decide +kernel
theorem dX0_redo_44 : decode cX0_redo 44 = .ok (.if_icmp .ne 16, 3) := by decide +kernel
theorem dX0_redo_47 : decode cX0_redo 47 = .ok (.aload_n 1, 1) := by decide +kernel
theorem dX0_redo_48 : decode cX0_redo 48 = .ok (.aload_n 0, 1) := by decide +kernel
theorem dX0_redo_49 : decode cX0_redo 49 = .ok (.getfield 9, 3) := by decide +kernel
theorem dX0_redo_52 : decode cX0_redo 52 = .ok (.iload_n 3, 1) := by decide +kernel
theorem dX0_redo_53 : decode cX0_redo 53 = .ok (.iaload, 1) := by decide +kernel
theorem dX0_redo_54 : decode cX0_redo 54 = .ok (.invokevirtual 31, 3) := by decide +kernel
theorem dX0_redo_57 : decode cX0_redo 57 = .ok (.goto 26, 3) := by decide +kernel
theorem dX0_redo_60 : decode cX0_redo 60 = .ok (.aload_n 1, 1) := by decide +kernel
theorem dX0_redo_61 : decode cX0_redo 61 = .ok (.aload_n 0, 1) := by decide +kernel
theorem dX0_redo_62 : decode cX0_redo 62 = .ok (.getfield 9, 3) := by decide +kernel
theorem dX0_redo_65 : decode cX0_redo 65 = .ok (.iload_n 3, 1) := by decide +kernel
theorem dX0_redo_66 : decode cX0_redo 66 = .ok (.iaload, 1) := by decide +kernel
theorem dX0_redo_67 : decode cX0_redo 67 = .ok (.aload_n 0, 1) := by decide +kernel
theorem dX0_redo_68 : decode cX0_redo 68 = .ok (.getfield 15, 3) := by decide +kernel
theorem dX0_redo_71 : decode cX0_redo 71 = .ok (.iload_n 3, 1) := by decide +kernel
theorem dX0_redo_72 : decode cX0_redo 72 = .ok (.iaload, 1) := by decide +kernel
theorem dX0_redo_73 : decode cX0_redo 73 = .ok (.aload_n 0, 1) := by decide +kernel
theorem dX0_redo_74 : decode cX0_redo 74 = .ok (.getfield 18, 3) := by decide +kernel
theorem dX0_redo_77 : decode cX0_redo 77 = .ok (.iload_n 3, 1) := by decide +kernel
theorem dX0_redo_78 : decode cX0_redo 78 = .ok (.iaload, 1) := by decide +kernel
theorem dX0_redo_79 : decode cX0_redo 79 = .ok (.invokevirtual 35, 3) := by decide +kernel
theorem dX0_redo_82 : decode cX0_redo 82 = .ok (.pop, 1) := by decide +kernel
theorem dX0_redo_83 : decode cX0_redo 83 = .ok (.iinc 3 1, 3) := by decide +kernel
theorem dX0_redo_86 : decode cX0_redo 86 = .ok (.goto (-84), 3) := by decide +kernel
theorem dX0_redo_89 : decode cX0_redo 89 = .ok (.return_, 1) := by decide +kernel
theorem dX1_init_0 : decode cX1_init 0 = .ok (.aload_n 0, 1) := by decide +kernel
theorem dX1_init_1 : decode cX1_init 1 = .ok (.invokespecial 3, 3) := by decide +kernel
theorem dX1_init_4 : decode cX1_init 4 = .ok (.aload_n 0, 1) := by decide +kernel
theorem dX1_init_5 : decode cX1_init 5 = .ok (.iconst 0, 1) := by decide +kernel
theorem dX1_init_6 : decode cX1_init 6 = .ok (.putfield 9, 3) := by decide +kernel
theorem dX1_init_9 : decode cX1_init 9 = .ok (.aload_n 0, 1) := by decide +kernel
theorem dX1_init_10 : decode cX1_init 10 = .ok (.iconst 0, 1) := by decide +kernel
theorem dX1_init_11 : decode cX1_init 11 = .ok (.putfield 15, 3) := by decide +kernel
theorem dX1_init_14 : decode cX1_init 14 = .ok (.aload_n 0, 1) := by decide +kernel
theorem dX1_init_15 : decode cX1_init 15 = .ok (.iconst 0, 1) := by decide +kernel
theorem dX1_init_16 : decode cX1_init 16 = .ok (.putfield 18, 3) := by decide +kernel
theorem dX1_init_19 : decode cX1_init 19 = .ok (.aload_n 0, 1) := by decide +kernel
theorem dX1_init_20 : decode cX1_init 20 = .ok (.iconst 0, 1) := by decide +kernel
theorem dX1_init_21 : decode cX1_init 21 = .ok (.putfield 21, 3) := by decide +kernel
theorem dX1_init_24 : decode cX1_init 24 = .ok (.aload_n 0, 1) := by decide +kernel
theorem dX1_init_25 : decode cX1_init 25 = .ok (.iconst 0, 1) := by decide +kernel
theorem dX1_init_26 : decode cX1_init 26 = .ok (.putfield 24, 3) := by decide +kernel
theorem dX1_init_29 : decode cX1_init 29 = .ok (.aload_n 0, 1) := by decide +kernel
theorem dX1_init_30 : decode cX1_init 30 = .ok (.iconst 0, 1) := by decide +kernel
theorem dX1_init_31 : decode cX1_init 31 = .ok (.putfield 27, 3) := by decide +kernel
theorem dX1_init_34 : decode cX1_init 34 = .ok (.aload_n 0, 1) := by decide +kernel
theorem dX1_init_35 : decode cX1_init 35 = .ok (.iconst (-1), 1) := by decide +kernel
theorem dX1_init_36 : decode cX1_init 36 = .ok (.putfield 30, 3) := by decide +kernel
theorem dX1_init_39 : decode cX1_init 39 = .ok (.aload_n 0, 1) := by decide +kernel
theorem dX1_init_40 : decode cX1_init 40 = .ok (.iconst 0, 1) := by decide +kernel
theorem dX1_init_41 : decode cX1_init 41 = .ok (.putfield 33, 3) := by decide +kernel
theorem dX1_init_44 : decode cX1_init 44 = .ok (.aload_n 0, 1) := by decide +kernel
theorem dX1_init_45 : decode cX1_init 45 = .ok (.iconst 0, 1) := by decide +kernel
theorem dX1_init_46 : decode cX1_init 46 = .ok (.putfield 36, 3) := by decide +kernel
theorem dX1_init_49 : decode cX1_init 49 = .ok (.aload_n 0, 1) := by decide +kernel
theorem dX1_init_50 : decode cX1_init 50 = .ok (.bipush 32, 2) := by decide +kernel
theorem dX1_init_52 : decode cX1_init 52 = .ok (.newarray .int, 2) := by decide +kernel
theorem dX1_init_54 : decode cX1_init 54 = .ok (.putfield 39, 3) := by decide +kernel
theorem dX1_init_57 : decode cX1_init 57 = .ok (.aload_n 0, 1) := by decide +kernel
theorem dX1_init_58 : decode cX1_init 58 = .ok (.bipush 32, 2) := by decide +kernel
theorem dX1_init_60 : decode cX1_init 60 = .ok (.newarray .int, 2) := by decide +kernel
theorem dX1_init_62 : decode cX1_init 62 = .ok (.putfield 43, 3) := by decide +kernel
theorem dX1_init_65 : decode cX1_init 65 = .ok (.aload_n 0, 1) := by decide +kernel
theorem dX1_init_66 : decode cX1_init 66 = .ok (.bipush 32, 2) := by decide +kernel
theorem dX1_init_68 : decode cX1_init 68 = .ok (.newarray .int, 2) := by decide +kernel
theorem dX1_init_70 : decode cX1_init 70 = .ok (.putfield 46, 3) := by decide +kernel
theorem dX1_init_73 : decode cX1_init 73 = .ok (.aload_n 0, 1) := by decide +kernel
theorem dX1_init_74 : decode cX1_init 74 = .ok (.bipush 32, 2) := by decide +kernel
theorem dX1_init_76 : decode cX1_init 76 = .ok (.newarray .int, 2) := by decide +kernel
theorem dX1_init_78 : decode cX1_init 78 = .ok (.putfield 49, 3) := by decide +kernel
theorem dX1_init_81 : decode cX1_init 81 = .ok (.return_, 1) := by decide +kernel
theorem dX1_copyFrom_0 : decode cX1_copyFrom 0 = .ok (.aload_n 0, 1) := by decide +kernel
theorem dX1_copyFrom_1 : decode cX1_copyFrom 1 = .ok (.aload_n 1, 1) := by decide +kernel
theorem dX1_copyFrom_2 : decode cX1_copyFrom 2 = .ok (.getfield 9, 3) := by decide +kernel
theorem dX1_copyFrom_5 : decode cX1_copyFrom 5 = .ok (.putfield 9, 3) := by decide +kernel
theorem dX1_copyFrom_8 : decode cX1_copyFrom 8 = .ok (.aload_n 0, 1) := by decide +kernel
theorem dX1_copyFrom_9 : decode cX1_copyFrom 9 = .ok (.aload_n 1, 1) := by decide +kernel
theorem dX1_copyFrom_10 : decode cX1_copyFrom 10 = .ok (.getfield 15, 3) := by decide +kernel
theorem dX1_copyFrom_13 : decode cX1_copyFrom 13 = .ok (.putfield 15, 3) := by decide +kernel
theorem dX1_copyFrom_16 : decode cX1_copyFrom 16 = .ok (.aload_n 0, 1) := by decide +kernel
theorem dX1_copyFrom_17 : decode cX1_copyFrom 17 = .ok (.aload_n 1, 1) := by decide +kernel
theorem dX1_copyFrom_18 : decode cX1_copyFrom 18 = .ok (.getfield 18, 3) := by decide +kernel
theorem dX1_copyFrom_21 : decode cX1_copyFrom 21 = .ok (.putfield 18, 3) := by decide +kernel
theorem dX1_copyFrom_24 : decode cX1_copyFrom 24 = .ok (.aload_n 0, 1) := by decide +kernel
theorem dX1_copyFrom_25 : decode cX1_copyFrom 25 = .ok (.aload_n 1, 1) := by decide +kernel
theorem dX1_copyFrom_26 : decode cX1_copyFrom 26 = .ok (.getfield 21, 3) := by decide +kernel
theorem dX1_copyFrom_29 : decode cX1_copyFrom 29 = .ok (.putfield 21, 3) := by decide +kernel
theorem dX1_copyFrom_32 : decode cX1_copyFrom 32 = .ok (.aload_n 0, 1) := by decide +kernel
theorem dX1_copyFrom_33 : decode cX1_copyFrom 33 = .ok (.aload_n 1, 1) := by decide +kernel
theorem dX1_copyFrom_34 : decode cX1_copyFrom 34 = .ok (.getfield 24, 3) := by decide +kernel
theorem dX1_copyFrom_37 : decode cX1_copyFrom 37 = .ok (.putfield 24, 3) := by decide +kernel
theorem dX1_copyFrom_40 : decode cX1_copyFrom 40 = .ok (.aload_n 0, 1) := by decide +kernel
theorem dX1_copyFrom_41 : decode cX1_copyFrom 41 = .ok (.aload_n 1, 1) := by decide +kernel
theorem dX1_copyFrom_42 : decode cX1_copyFrom 42 = .ok (.getfield 27, 3) := by decide +kernel
theorem dX1_copyFrom_45 : decode cX1_copyFrom 45 = .ok (.putfield 27, 3) := by decide +kernel
theorem dX1_copyFrom_48 : decode cX1_copyFrom 48 = .ok (.aload_n 0, 1) := by decide +kernel
theorem dX1_copyFrom_49 : decode cX1_copyFrom 49 = .ok (.aload_n 1, 1) := by decide +kernel
theorem dX1_copyFrom_50 : decode cX1_copyFrom 50 = .ok (.getfield 30, 3) := by decide +kernel
theorem dX1_copyFrom_53 : decode cX1_copyFrom 53 = .ok (.putfield 30, 3) := by decide +kernel
theorem dX1_copyFrom_56 : decode cX1_copyFrom 56 = .ok (.aload_n 0, 1) := by decide +kernel
theorem dX1_copyFrom_57 : decode cX1_copyFrom 57 = .ok (.aload_n 1, 1) := by decide +kernel
theorem dX1_copyFrom_58 : decode cX1_copyFrom 58 = .ok (.getfield 33, 3) := by decide +kernel
theorem dX1_copyFrom_61 : decode cX1_copyFrom 61 = .ok (.putfield 33, 3) := by decide +kernel
theorem dX1_copyFrom_64 : decode cX1_copyFrom 64 = .ok (.aload_n 1, 1) := by decide +kernel
theorem dX1_copyFrom_65 : decode cX1_copyFrom 65 = .ok (.getfield 39, 3) := by decide +kernel
theorem dX1_copyFrom_68 : decode cX1_copyFrom 68 = .ok (.iconst 0, 1) := by decide +kernel
theorem dX1_copyFrom_69 : decode cX1_copyFrom 69 = .ok (.aload_n 0, 1) := by decide +kernel
theorem dX1_copyFrom_70 : decode cX1_copyFrom 70 = .ok (.getfield 39, 3) := by decide +kernel
theorem dX1_copyFrom_73 : decode cX1_copyFrom 73 = .ok (.iconst 0, 1) := by decide +kernel
theorem dX1_copyFrom_74 : decode cX1_copyFrom 74 = .ok (.bipush 32, 2) := by decide +kernel
theorem dX1_copyFrom_76 : decode cX1_copyFrom 76 = .ok (.invokestatic 52, 3) := by decide +kernel
theorem dX1_copyFrom_79 : decode cX1_copyFrom 79 = .ok (.aload_n 1, 1) := by decide +kernel
theorem dX1_copyFrom_80 : decode cX1_copyFrom 80 = .ok (.getfield 43, 3) := by decide +kernel
theorem dX1_copyFrom_83 : decode cX1_copyFrom 83 = .ok (.iconst 0, 1) := by decide +kernel
theorem dX1_copyFrom_84 : decode cX1_copyFrom 84 = .ok (.aload_n 0, 1) := by decide +kernel
theorem dX1_copyFrom_85 : decode cX1_copyFrom 85 = .ok (.getfield 43, 3) := by decide +kernel
theorem dX1_copyFrom_88 : decode cX1_copyFrom 88 = .ok (.iconst 0, 1) := by decide +kernel
theorem dX1_copyFrom_89 : decode cX1_copyFrom 89 = .ok (.bipush 32, 2) := by decide +kernel
theorem dX1_copyFrom_91 : decode cX1_copyFrom 91 = .ok (.invokestatic 52, 3) := by decide +kernel
theorem dX1_copyFrom_94 : decode cX1_copyFrom 94 = .ok (.aload_n 1, 1) := by decide +kernel
theorem dX1_copyFrom_95 : decode cX1_copyFrom 95 = .ok (.getfield 46, 3) := by decide +kernel
theorem dX1_copyFrom_98 : decode cX1_copyFrom 98 = .ok (.iconst 0, 1) := by decide +kernel
theorem dX1_copyFrom_99 : decode cX1_copyFrom 99 = .ok (.aload_n 0, 1) := by decide +kernel
theorem dX1_copyFrom_100 : decode cX1_copyFrom 100 = .ok (.getfield 46, 3) := by decide +kernel
theorem dX1_copyFrom_103 : decode cX1_copyFrom 103 = .ok (.iconst 0, 1) := by decide +kernel
theorem dX1_copyFrom_104 : decode cX1_copyFrom 104 = .ok (.bipush 32, 2) := by decide +kernel
theorem dX1_copyFrom_106 : decode cX1_copyFrom 106 = .ok (.invokestatic 52, 3) := by decide +kernel
theorem dX1_copyFrom_109 : decode cX1_copyFrom 109 = .ok (.aload_n 1, 1) := by decide +kernel
theorem dX1_copyFrom_110 : decode cX1_copyFrom 110 = .ok (.getfield 49, 3) := by decide +kernel
theorem dX1_copyFrom_113 : decode cX1_copyFrom 113 = .ok (.iconst 0, 1) := by decide +kernel
theorem dX1_copyFrom_114 : decode cX1_copyFrom 114 = .ok (.aload_n 0, 1) := by decide +kernel
theorem dX1_copyFrom_115 : decode cX1_copyFrom 115 = .ok (.getfield 49, 3) := by decide +kernel
theorem dX1_copyFrom_118 : decode cX1_copyFrom 118 = .ok (.iconst 0, 1) := by decide +kernel
theorem dX1_copyFrom_119 : decode cX1_copyFrom 119 = .ok (.bipush 32, 2) := by decide +kernel
theorem dX1_copyFrom_121 : decode cX1_copyFrom 121 = .ok (.invokestatic 52, 3) := by decide +kernel
theorem dX1_copyFrom_124 : decode cX1_copyFrom 124 = .ok (.return_, 1) := by decide +kernel
theorem dX1_room_0 : decode cX1_room 0 = .ok (.sipush 248, 3) := by decide +kernel
theorem dX1_room_3 : decode cX1_room 3 = .ok (.iconst 4, 1) := by decide +kernel
theorem dX1_room_4 : decode cX1_room 4 = .ok (.aload_n 0, 1) := by decide +kernel
theorem dX1_room_5 : decode cX1_room 5 = .ok (.getfield 15, 3) := by decide +kernel
theorem dX1_room_8 : decode cX1_room 8 = .ok (.imul, 1) := by decide +kernel
theorem dX1_room_9 : decode cX1_room 9 = .ok (.isub, 1) := by decide +kernel
theorem dX1_room_10 : decode cX1_room 10 = .ok (.aload_n 0, 1) := by decide +kernel
theorem dX1_room_11 : decode cX1_room 11 = .ok (.getfield 24, 3) := by decide +kernel
theorem dX1_room_14 : decode cX1_room 14 = .ok (.isub, 1) := by decide +kernel
theorem dX1_room_15 : decode cX1_room 15 = .ok (.ireturn, 1) := by decide +kernel
theorem dX1_takesNewCells_0 : decode cX1_takesNewCells 0 = .ok (.aload_n 0, 1) := by decide +kernel
theorem dX1_takesNewCells_1 : decode cX1_takesNewCells 1 = .ok (.getfield 9, 3) := by decide +kernel
theorem dX1_takesNewCells_4 : decode cX1_takesNewCells 4 = .ok (.iconst 1, 1) := by decide +kernel
theorem dX1_takesNewCells_5 : decode cX1_takesNewCells 5 = .ok (.if_icmp .ne 16, 3) := by decide +kernel
theorem dX1_takesNewCells_8 : decode cX1_takesNewCells 8 = .ok (.aload_n 0, 1) := by decide +kernel
theorem dX1_takesNewCells_9 : decode cX1_takesNewCells 9 = .ok (.getfield 18, 3) := by decide +kernel
theorem dX1_takesNewCells_12 : decode cX1_takesNewCells 12 = .ok (.bipush 32, 2) := by decide +kernel
theorem dX1_takesNewCells_14 : decode cX1_takesNewCells 14 = .ok (.if_icmp .ge 7, 3) := by decide +kernel
theorem dX1_takesNewCells_17 : decode cX1_takesNewCells 17 = .ok (.iconst 1, 1) := by decide +kernel
theorem dX1_takesNewCells_18 : decode cX1_takesNewCells 18 = .ok (.goto 4, 3) := by decide +kernel
theorem dX1_takesNewCells_21 : decode cX1_takesNewCells 21 = .ok (.iconst 0, 1) := by decide +kernel
theorem dX1_takesNewCells_22 : decode cX1_takesNewCells 22 = .ok (.ireturn, 1) := by decide +kernel
theorem dX1_hasRoomInstead_0 : decode cX1_hasRoomInstead 0 = .ok (.aload_n 0, 1) := by decide +kernel
theorem dX1_hasRoomInstead_1 : decode cX1_hasRoomInstead 1 = .ok (.invokevirtual 58, 3) := by decide +kernel
theorem dX1_hasRoomInstead_4 : decode cX1_hasRoomInstead 4 = .ok (.aload_n 0, 1) := by decide +kernel
theorem dX1_hasRoomInstead_5 : decode cX1_hasRoomInstead 5 = .ok (.iload_n 1, 1) := by decide +kernel
theorem dX1_hasRoomInstead_6 : decode cX1_hasRoomInstead 6 = .ok (.invokevirtual 62, 3) := by decide +kernel
theorem dX1_hasRoomInstead_9 : decode cX1_hasRoomInstead 9 = .ok (.iadd, 1) := by decide +kernel
theorem dX1_hasRoomInstead_10 : decode cX1_hasRoomInstead 10 = .ok (.iload_n 2, 1) := by decide +kernel
theorem dX1_hasRoomInstead_11 : decode cX1_hasRoomInstead 11 = .ok (.if_icmp .lt 7, 3) := by decide +kernel
theorem dX1_hasRoomInstead_14 : decode cX1_hasRoomInstead 14 = .ok (.iconst 1, 1) := by decide +kernel
theorem dX1_hasRoomInstead_15 : decode cX1_hasRoomInstead 15 = .ok (.goto 4, 3) := by decide +kernel
theorem dX1_hasRoomInstead_18 : decode cX1_hasRoomInstead 18 = .ok (.iconst 0, 1) := by decide +kernel
theorem dX1_hasRoomInstead_19 : decode cX1_hasRoomInstead 19 = .ok (.ireturn, 1) := by decide +kernel
theorem dX1_hasHome_0 : decode cX1_hasHome 0 = .ok (.aload_n 0, 1) := by decide +kernel
theorem dX1_hasHome_1 : decode cX1_hasHome 1 = .ok (.getfield 39, 3) := by decide +kernel
theorem dX1_hasHome_4 : decode cX1_hasHome 4 = .ok (.iload_n 1, 1) := by decide +kernel
theorem dX1_hasHome_5 : decode cX1_hasHome 5 = .ok (.iaload, 1) := by decide +kernel
theorem dX1_hasHome_6 : decode cX1_hasHome 6 = .ok (.iconst 1, 1) := by decide +kernel
theorem dX1_hasHome_7 : decode cX1_hasHome 7 = .ok (.if_icmp .eq 13, 3) := by decide +kernel
theorem dX1_hasHome_10 : decode cX1_hasHome 10 = .ok (.aload_n 0, 1) := by decide +kernel
theorem dX1_hasHome_11 : decode cX1_hasHome 11 = .ok (.getfield 39, 3) := by decide +kernel
theorem dX1_hasHome_14 : decode cX1_hasHome 14 = .ok (.iload_n 1, 1) := by decide +kernel
theorem dX1_hasHome_15 : decode cX1_hasHome 15 = .ok (.iaload, 1) := by decide +kernel
theorem dX1_hasHome_16 : decode cX1_hasHome 16 = .ok (.iconst 2, 1) := by decide +kernel
theorem dX1_hasHome_17 : decode cX1_hasHome 17 = .ok (.if_icmp .ne 7, 3) := by decide +kernel
theorem dX1_hasHome_20 : decode cX1_hasHome 20 = .ok (.iconst 1, 1) := by decide +kernel
theorem dX1_hasHome_21 : decode cX1_hasHome 21 = .ok (.goto 4, 3) := by decide +kernel
theorem dX1_hasHome_24 : decode cX1_hasHome 24 = .ok (.iconst 0, 1) := by decide +kernel
theorem dX1_hasHome_25 : decode cX1_hasHome 25 = .ok (.ireturn, 1) := by decide +kernel
theorem dX1_firstHomeFrom_0 : decode cX1_firstHomeFrom 0 = .ok (.iload_n 1, 1) := by decide +kernel
theorem dX1_firstHomeFrom_1 : decode cX1_firstHomeFrom 1 = .ok (.istore_n 2, 1) := by decide +kernel
theorem dX1_firstHomeFrom_2 : decode cX1_firstHomeFrom 2 = .ok (.iload_n 2, 1) := by decide +kernel
theorem dX1_firstHomeFrom_3 : decode cX1_firstHomeFrom 3 = .ok (.aload_n 0, 1) := by decide +kernel
theorem dX1_firstHomeFrom_4 : decode cX1_firstHomeFrom 4 = .ok (.getfield 15, 3) := by decide +kernel
theorem dX1_firstHomeFrom_7 : decode cX1_firstHomeFrom 7 = .ok (.if_icmp .ge 19, 3) := by decide +kernel
theorem dX1_firstHomeFrom_10 : decode cX1_firstHomeFrom 10 = .ok (.aload_n 0, 1) := by decide +kernel
theorem dX1_firstHomeFrom_11 : decode cX1_firstHomeFrom 11 = .ok (.iload_n 2, 1) := by decide +kernel
theorem dX1_firstHomeFrom_12 : decode cX1_firstHomeFrom 12 = .ok (.invokevirtual 66, 3) := by decide +kernel
theorem dX1_firstHomeFrom_15 : decode cX1_firstHomeFrom 15 = .ok (.ifCond .eq 5, 3) := by decide +kernel
theorem dX1_firstHomeFrom_18 : decode cX1_firstHomeFrom 18 = .ok (.iload_n 2, 1) := by decide +kernel
theorem dX1_firstHomeFrom_19 : decode cX1_firstHomeFrom 19 = .ok (.ireturn, 1) := by decide +kernel
theorem dX1_firstHomeFrom_20 : decode cX1_firstHomeFrom 20 = .ok (.iinc 2 1, 3) := by decide +kernel
theorem dX1_firstHomeFrom_23 : decode cX1_firstHomeFrom 23 = .ok (.goto (-21), 3) := by decide +kernel
theorem dX1_firstHomeFrom_26 : decode cX1_firstHomeFrom 26 = .ok (.iconst (-1), 1) := by decide +kernel
theorem dX1_firstHomeFrom_27 : decode cX1_firstHomeFrom 27 = .ok (.ireturn, 1) := by decide +kernel
theorem dX1_put_0 : decode cX1_put 0 = .ok (.aload_n 0, 1) := by decide +kernel
theorem dX1_put_1 : decode cX1_put 1 = .ok (.iconst 1, 1) := by decide +kernel
theorem dX1_put_2 : decode cX1_put 2 = .ok (.putfield 9, 3) := by decide +kernel
theorem dX1_put_5 : decode cX1_put 5 = .ok (.aload_n 0, 1) := by decide +kernel
theorem dX1_put_6 : decode cX1_put 6 = .ok (.invokevirtual 70, 3) := by decide +kernel
theorem dX1_put_9 : decode cX1_put 9 = .ok (.istore 5, 2) := by decide +kernel
theorem dX1_put_11 : decode cX1_put 11 = .ok (.iload_n 1, 1) := by decide +kernel
theorem dX1_put_12 : decode cX1_put 12 = .ok (.iload_n 2, 1) := by decide +kernel
theorem dX1_put_13 : decode cX1_put 13 = .ok (.invokestatic 73, 3) := by decide +kernel
theorem dX1_put_16 : decode cX1_put 16 = .ok (.istore 6, 2) := by decide +kernel
theorem dX1_put_18 : decode cX1_put 18 = .ok (.iload 5, 2) := by decide +kernel
theorem dX1_put_20 : decode cX1_put 20 = .ok (.aload_n 0, 1) := by decide +kernel
theorem dX1_put_21 : decode cX1_put 21 = .ok (.getfield 15, 3) := by decide +kernel
theorem dX1_put_24 : decode cX1_put 24 = .ok (.if_icmp .ge 13, 3) := by decide +kernel
theorem dX1_put_27 : decode cX1_put 27 = .ok (.aload_n 0, 1) := by decide +kernel
theorem dX1_put_28 : decode cX1_put 28 = .ok (.iload 6, 2) := by decide +kernel
theorem dX1_put_30 : decode cX1_put 30 = .ok (.iconst 0, 1) := by decide +kernel
theorem dX1_put_31 : decode cX1_put 31 = .ok (.invokevirtual 77, 3) := by decide +kernel
theorem dX1_put_34 : decode cX1_put 34 = .ok (.goto 18, 3) := by decide +kernel
theorem dX1_put_37 : decode cX1_put 37 = .ok (.aload_n 0, 1) := by decide +kernel
theorem dX1_put_38 : decode cX1_put 38 = .ok (.iload 6, 2) := by decide +kernel
theorem dX1_put_40 : decode cX1_put 40 = .ok (.iconst 4, 1) := by decide +kernel
theorem dX1_put_41 : decode cX1_put 41 = .ok (.invokevirtual 77, 3) := by decide +kernel
theorem dX1_put_44 : decode cX1_put 44 = .ok (.aload_n 0, 1) := by decide +kernel
theorem dX1_put_45 : decode cX1_put 45 = .ok (.iload 5, 2) := by decide +kernel
theorem dX1_put_47 : decode cX1_put 47 = .ok (.iconst 1, 1) := by decide +kernel
theorem dX1_put_48 : decode cX1_put 48 = .ok (.iadd, 1) := by decide +kernel
theorem dX1_put_49 : decode cX1_put 49 = .ok (.putfield 15, 3) := by decide +kernel
theorem dX1_put_52 : decode cX1_put 52 = .ok (.aload_n 0, 1) := by decide +kernel
theorem dX1_put_53 : decode cX1_put 53 = .ok (.dup, 1) := by decide +kernel
theorem dX1_put_54 : decode cX1_put 54 = .ok (.getfield 18, 3) := by decide +kernel
theorem dX1_put_57 : decode cX1_put 57 = .ok (.iconst 1, 1) := by decide +kernel
theorem dX1_put_58 : decode cX1_put 58 = .ok (.iadd, 1) := by decide +kernel
theorem dX1_put_59 : decode cX1_put 59 = .ok (.putfield 18, 3) := by decide +kernel
theorem dX1_put_62 : decode cX1_put 62 = .ok (.aload_n 0, 1) := by decide +kernel
theorem dX1_put_63 : decode cX1_put 63 = .ok (.iload 5, 2) := by decide +kernel
theorem dX1_put_65 : decode cX1_put 65 = .ok (.iload_n 1, 1) := by decide +kernel
theorem dX1_put_66 : decode cX1_put 66 = .ok (.iload_n 2, 1) := by decide +kernel
theorem dX1_put_67 : decode cX1_put 67 = .ok (.iload_n 3, 1) := by decide +kernel
theorem dX1_put_68 : decode cX1_put 68 = .ok (.iload 4, 2) := by decide +kernel
theorem dX1_put_70 : decode cX1_put 70 = .ok (.invokevirtual 81, 3) := by decide +kernel
theorem dX1_put_73 : decode cX1_put 73 = .ok (.iload 5, 2) := by decide +kernel
theorem dX1_put_75 : decode cX1_put 75 = .ok (.ireturn, 1) := by decide +kernel
theorem dX1_change_0 : decode cX1_change 0 = .ok (.aload_n 0, 1) := by decide +kernel
theorem dX1_change_1 : decode cX1_change 1 = .ok (.iload_n 1, 1) := by decide +kernel
theorem dX1_change_2 : decode cX1_change 2 = .ok (.invokevirtual 62, 3) := by decide +kernel
theorem dX1_change_5 : decode cX1_change 5 = .ok (.istore 6, 2) := by decide +kernel
theorem dX1_change_7 : decode cX1_change 7 = .ok (.iload_n 2, 1) := by decide +kernel
theorem dX1_change_8 : decode cX1_change 8 = .ok (.iload_n 3, 1) := by decide +kernel
theorem dX1_change_9 : decode cX1_change 9 = .ok (.invokestatic 73, 3) := by decide +kernel
theorem dX1_change_12 : decode cX1_change 12 = .ok (.istore 7, 2) := by decide +kernel
theorem dX1_change_14 : decode cX1_change 14 = .ok (.aload_n 0, 1) := by decide +kernel
theorem dX1_change_15 : decode cX1_change 15 = .ok (.iload_n 1, 1) := by decide +kernel
theorem dX1_change_16 : decode cX1_change 16 = .ok (.invokevirtual 85, 3) := by decide +kernel
theorem dX1_change_19 : decode cX1_change 19 = .ok (.iload 7, 2) := by decide +kernel
theorem dX1_change_21 : decode cX1_change 21 = .ok (.iload 6, 2) := by decide +kernel
theorem dX1_change_23 : decode cX1_change 23 = .ok (.if_icmp .le 10, 3) := by decide +kernel
theorem dX1_change_26 : decode cX1_change 26 = .ok (.aload_n 0, 1) := by decide +kernel
theorem dX1_change_27 : decode cX1_change 27 = .ok (.iload 7, 2) := by decide +kernel
theorem dX1_change_29 : decode cX1_change 29 = .ok (.iconst 0, 1) := by decide +kernel
theorem dX1_change_30 : decode cX1_change 30 = .ok (.invokevirtual 77, 3) := by decide +kernel
theorem dX1_change_33 : decode cX1_change 33 = .ok (.aload_n 0, 1) := by decide +kernel
theorem dX1_change_34 : decode cX1_change 34 = .ok (.iload_n 1, 1) := by decide +kernel
theorem dX1_change_35 : decode cX1_change 35 = .ok (.iload_n 2, 1) := by decide +kernel
theorem dX1_change_36 : decode cX1_change 36 = .ok (.iload_n 3, 1) := by decide +kernel
theorem dX1_change_37 : decode cX1_change 37 = .ok (.iload 4, 2) := by decide +kernel
theorem dX1_change_39 : decode cX1_change 39 = .ok (.iload 5, 2) := by decide +kernel
theorem dX1_change_41 : decode cX1_change 41 = .ok (.invokevirtual 81, 3) := by decide +kernel
theorem dX1_change_44 : decode cX1_change 44 = .ok (.return_, 1) := by decide +kernel
theorem dX1_remove_0 : decode cX1_remove 0 = .ok (.aload_n 0, 1) := by decide +kernel
theorem dX1_remove_1 : decode cX1_remove 1 = .ok (.iload_n 1, 1) := by decide +kernel
theorem dX1_remove_2 : decode cX1_remove 2 = .ok (.invokevirtual 85, 3) := by decide +kernel
theorem dX1_remove_5 : decode cX1_remove 5 = .ok (.aload_n 0, 1) := by decide +kernel
theorem dX1_remove_6 : decode cX1_remove 6 = .ok (.dup, 1) := by decide +kernel
theorem dX1_remove_7 : decode cX1_remove 7 = .ok (.getfield 18, 3) := by decide +kernel
theorem dX1_remove_10 : decode cX1_remove 10 = .ok (.iconst 1, 1) := by decide +kernel
theorem dX1_remove_11 : decode cX1_remove 11 = .ok (.isub, 1) := by decide +kernel
theorem dX1_remove_12 : decode cX1_remove 12 = .ok (.putfield 18, 3) := by decide +kernel
theorem dX1_remove_15 : decode cX1_remove 15 = .ok (.aload_n 0, 1) := by decide +kernel
theorem dX1_remove_16 : decode cX1_remove 16 = .ok (.getfield 15, 3) := by decide +kernel
theorem dX1_remove_19 : decode cX1_remove 19 = .ok (.ifCond .le 30, 3) := by decide +kernel
theorem dX1_remove_22 : decode cX1_remove 22 = .ok (.aload_n 0, 1) := by decide +kernel
theorem dX1_remove_23 : decode cX1_remove 23 = .ok (.getfield 39, 3) := by decide +kernel
theorem dX1_remove_26 : decode cX1_remove 26 = .ok (.aload_n 0, 1) := by decide +kernel
theorem dX1_remove_27 : decode cX1_remove 27 = .ok (.getfield 15, 3) := by decide +kernel
theorem dX1_remove_30 : decode cX1_remove 30 = .ok (.iconst 1, 1) := by decide +kernel
theorem dX1_remove_31 : decode cX1_remove 31 = .ok (.isub, 1) := by decide +kernel
theorem dX1_remove_32 : decode cX1_remove 32 = .ok (.iaload, 1) := by decide +kernel
theorem dX1_remove_33 : decode cX1_remove 33 = .ok (.ifCond .ne 16, 3) := by decide +kernel
theorem dX1_remove_36 : decode cX1_remove 36 = .ok (.aload_n 0, 1) := by decide +kernel
theorem dX1_remove_37 : decode cX1_remove 37 = .ok (.dup, 1) := by decide +kernel
theorem dX1_remove_38 : decode cX1_remove 38 = .ok (.getfield 15, 3) := by decide +kernel
theorem dX1_remove_41 : decode cX1_remove 41 = .ok (.iconst 1, 1) := by decide +kernel
theorem dX1_remove_42 : decode cX1_remove 42 = .ok (.isub, 1) := by decide +kernel
theorem dX1_remove_43 : decode cX1_remove 43 = .ok (.putfield 15, 3) := by decide +kernel
theorem dX1_remove_46 : decode cX1_remove 46 = .ok (.goto (-31), 3) := by decide +kernel
theorem dX1_remove_49 : decode cX1_remove 49 = .ok (.aload_n 0, 1) := by decide +kernel
theorem dX1_remove_50 : decode cX1_remove 50 = .ok (.getfield 18, 3) := by decide +kernel
theorem dX1_remove_53 : decode cX1_remove 53 = .ok (.ifCond .ne 7, 3) := by decide +kernel
theorem dX1_remove_56 : decode cX1_remove 56 = .ok (.aload_n 0, 1) := by decide +kernel
theorem dX1_remove_57 : decode cX1_remove 57 = .ok (.invokevirtual 89, 3) := by decide +kernel
theorem dX1_remove_60 : decode cX1_remove 60 = .ok (.return_, 1) := by decide +kernel
theorem dX1_becomeChain_0 : decode cX1_becomeChain 0 = .ok (.aload_n 0, 1) := by decide +kernel
theorem dX1_becomeChain_1 : decode cX1_becomeChain 1 = .ok (.iconst 2, 1) := by decide +kernel
theorem dX1_becomeChain_2 : decode cX1_becomeChain 2 = .ok (.putfield 9, 3) := by decide +kernel
theorem dX1_becomeChain_5 : decode cX1_becomeChain 5 = .ok (.aload_n 0, 1) := by decide +kernel
theorem dX1_becomeChain_6 : decode cX1_becomeChain 6 = .ok (.iconst (-1), 1) := by decide +kernel
theorem dX1_becomeChain_7 : decode cX1_becomeChain 7 = .ok (.putfield 30, 3) := by decide +kernel
theorem dX1_becomeChain_10 : decode cX1_becomeChain 10 = .ok (.aload_n 0, 1) := by decide +kernel
theorem dX1_becomeChain_11 : decode cX1_becomeChain 11 = .ok (.iload_n 1, 1) := by decide +kernel
theorem dX1_becomeChain_12 : decode cX1_becomeChain 12 = .ok (.putfield 33, 3) := by decide +kernel
theorem dX1_becomeChain_15 : decode cX1_becomeChain 15 = .ok (.return_, 1) := by decide +kernel
theorem dX1_becomeFree_0 : decode cX1_becomeFree 0 = .ok (.aload_n 0, 1) := by decide +kernel
theorem dX1_becomeFree_1 : decode cX1_becomeFree 1 = .ok (.iconst 0, 1) := by decide +kernel
theorem dX1_becomeFree_2 : decode cX1_becomeFree 2 = .ok (.putfield 9, 3) := by decide +kernel
theorem dX1_becomeFree_5 : decode cX1_becomeFree 5 = .ok (.aload_n 0, 1) := by decide +kernel
theorem dX1_becomeFree_6 : decode cX1_becomeFree 6 = .ok (.iconst 0, 1) := by decide +kernel
theorem dX1_becomeFree_7 : decode cX1_becomeFree 7 = .ok (.putfield 27, 3) := by decide +kernel
theorem dX1_becomeFree_10 : decode cX1_becomeFree 10 = .ok (.return_, 1) := by decide +kernel
theorem dX1_bytesAt_0 : decode cX1_bytesAt 0 = .ok (.aload_n 0, 1) := by decide +kernel
theorem dX1_bytesAt_1 : decode cX1_bytesAt 1 = .ok (.getfield 39, 3) := by decide +kernel
theorem dX1_bytesAt_4 : decode cX1_bytesAt 4 = .ok (.iload_n 1, 1) := by decide +kernel
theorem dX1_bytesAt_5 : decode cX1_bytesAt 5 = .ok (.iaload, 1) := by decide +kernel
theorem dX1_bytesAt_6 : decode cX1_bytesAt 6 = .ok (.aload_n 0, 1) := by decide +kernel
theorem dX1_bytesAt_7 : decode cX1_bytesAt 7 = .ok (.getfield 43, 3) := by decide +kernel
theorem dX1_bytesAt_10 : decode cX1_bytesAt 10 = .ok (.iload_n 1, 1) := by decide +kernel
theorem dX1_bytesAt_11 : decode cX1_bytesAt 11 = .ok (.iaload, 1) := by decide +kernel
theorem dX1_bytesAt_12 : decode cX1_bytesAt 12 = .ok (.invokestatic 73, 3) := by decide +kernel
theorem dX1_bytesAt_15 : decode cX1_bytesAt 15 = .ok (.ireturn, 1) := by decide +kernel
theorem dX1_leastEmptySlot_0 : decode cX1_leastEmptySlot 0 = .ok (.iconst 0, 1) := by decide +kernel
theorem dX1_leastEmptySlot_1 : decode cX1_leastEmptySlot 1 = .ok (.istore_n 1, 1) := by decide +kernel
theorem dX1_leastEmptySlot_2 : decode cX1_leastEmptySlot 2 = .ok (.iload_n 1, 1) := by decide +kernel
theorem dX1_leastEmptySlot_3 : decode cX1_leastEmptySlot 3 = .ok (.aload_n 0, 1) := by decide +kernel
theorem dX1_leastEmptySlot_4 : decode cX1_leastEmptySlot 4 = .ok (.getfield 15, 3) := by decide +kernel
theorem dX1_leastEmptySlot_7 : decode cX1_leastEmptySlot 7 = .ok (.if_icmp .ge 20, 3) := by decide +kernel
theorem dX1_leastEmptySlot_10 : decode cX1_leastEmptySlot 10 = .ok (.aload_n 0, 1) := by decide +kernel
theorem dX1_leastEmptySlot_11 : decode cX1_leastEmptySlot 11 = .ok (.getfield 39, 3) := by decide +kernel
theorem dX1_leastEmptySlot_14 : decode cX1_leastEmptySlot 14 = .ok (.iload_n 1, 1) := by decide +kernel
theorem dX1_leastEmptySlot_15 : decode cX1_leastEmptySlot 15 = .ok (.iaload, 1) := by decide +kernel
theorem dX1_leastEmptySlot_16 : decode cX1_leastEmptySlot 16 = .ok (.ifCond .ne 5, 3) := by decide +kernel
theorem dX1_leastEmptySlot_19 : decode cX1_leastEmptySlot 19 = .ok (.iload_n 1, 1) := by decide +kernel
theorem dX1_leastEmptySlot_20 : decode cX1_leastEmptySlot 20 = .ok (.ireturn, 1) := by decide +kernel
theorem dX1_leastEmptySlot_21 : decode cX1_leastEmptySlot 21 = .ok (.iinc 1 1, 3) := by decide +kernel
theorem dX1_leastEmptySlot_24 : decode cX1_leastEmptySlot 24 = .ok (.goto (-22), 3) := by decide +kernel
theorem dX1_leastEmptySlot_27 : decode cX1_leastEmptySlot 27 = .ok (.aload_n 0, 1) := by decide +kernel
theorem dX1_leastEmptySlot_28 : decode cX1_leastEmptySlot 28 = .ok (.getfield 15, 3) := by decide +kernel
theorem dX1_leastEmptySlot_31 : decode cX1_leastEmptySlot 31 = .ok (.ireturn, 1) := by decide +kernel
theorem dX1_claimEnd_0 : decode cX1_claimEnd 0 = .ok (.aload_n 0, 1) := by decide +kernel
theorem dX1_claimEnd_1 : decode cX1_claimEnd 1 = .ok (.getfield 27, 3) := by decide +kernel
theorem dX1_claimEnd_4 : decode cX1_claimEnd 4 = .ok (.iload_n 1, 1) := by decide +kernel
theorem dX1_claimEnd_5 : decode cX1_claimEnd 5 = .ok (.iadd, 1) := by decide +kernel
theorem dX1_claimEnd_6 : decode cX1_claimEnd 6 = .ok (.iload_n 2, 1) := by decide +kernel
theorem dX1_claimEnd_7 : decode cX1_claimEnd 7 = .ok (.iadd, 1) := by decide +kernel
theorem dX1_claimEnd_8 : decode cX1_claimEnd 8 = .ok (.sipush 248, 3) := by decide +kernel
theorem dX1_claimEnd_11 : decode cX1_claimEnd 11 = .ok (.iconst 4, 1) := by decide +kernel
theorem dX1_claimEnd_12 : decode cX1_claimEnd 12 = .ok (.aload_n 0, 1) := by decide +kernel
theorem dX1_claimEnd_13 : decode cX1_claimEnd 13 = .ok (.getfield 15, 3) := by decide +kernel
theorem dX1_claimEnd_16 : decode cX1_claimEnd 16 = .ok (.imul, 1) := by decide +kernel
theorem dX1_claimEnd_17 : decode cX1_claimEnd 17 = .ok (.isub, 1) := by decide +kernel
theorem dX1_claimEnd_18 : decode cX1_claimEnd 18 = .ok (.if_icmp .le 21, 3) := by decide +kernel
theorem dX1_claimEnd_21 : decode cX1_claimEnd 21 = .ok (.aload_n 0, 1) := by decide +kernel
theorem dX1_claimEnd_22 : decode cX1_claimEnd 22 = .ok (.aload_n 0, 1) := by decide +kernel
theorem dX1_claimEnd_23 : decode cX1_claimEnd 23 = .ok (.getfield 24, 3) := by decide +kernel
theorem dX1_claimEnd_26 : decode cX1_claimEnd 26 = .ok (.putfield 27, 3) := by decide +kernel
theorem dX1_claimEnd_29 : decode cX1_claimEnd 29 = .ok (.aload_n 0, 1) := by decide +kernel
theorem dX1_claimEnd_30 : decode cX1_claimEnd 30 = .ok (.dup, 1) := by decide +kernel
theorem dX1_claimEnd_31 : decode cX1_claimEnd 31 = .ok (.getfield 36, 3) := by decide +kernel
theorem dX1_claimEnd_34 : decode cX1_claimEnd 34 = .ok (.iconst 1, 1) := by decide +kernel
theorem dX1_claimEnd_35 : decode cX1_claimEnd 35 = .ok (.iadd, 1) := by decide +kernel
theorem dX1_claimEnd_36 : decode cX1_claimEnd 36 = .ok (.putfield 36, 3) := by decide +kernel
theorem dX1_claimEnd_39 : decode cX1_claimEnd 39 = .ok (.aload_n 0, 1) := by decide +kernel
theorem dX1_claimEnd_40 : decode cX1_claimEnd 40 = .ok (.dup, 1) := by decide +kernel
theorem dX1_claimEnd_41 : decode cX1_claimEnd 41 = .ok (.getfield 27, 3) := by decide +kernel
theorem dX1_claimEnd_44 : decode cX1_claimEnd 44 = .ok (.iload_n 1, 1) := by decide +kernel
theorem dX1_claimEnd_45 : decode cX1_claimEnd 45 = .ok (.iadd, 1) := by decide +kernel
theorem dX1_claimEnd_46 : decode cX1_claimEnd 46 = .ok (.putfield 27, 3) := by decide +kernel
theorem dX1_claimEnd_49 : decode cX1_claimEnd 49 = .ok (.return_, 1) := by decide +kernel
theorem dX1_erase_0 : decode cX1_erase 0 = .ok (.aload_n 0, 1) := by decide +kernel
theorem dX1_erase_1 : decode cX1_erase 1 = .ok (.dup, 1) := by decide +kernel
theorem dX1_erase_2 : decode cX1_erase 2 = .ok (.getfield 24, 3) := by decide +kernel
theorem dX1_erase_5 : decode cX1_erase 5 = .ok (.aload_n 0, 1) := by decide +kernel
theorem dX1_erase_6 : decode cX1_erase 6 = .ok (.getfield 39, 3) := by decide +kernel
theorem dX1_erase_9 : decode cX1_erase 9 = .ok (.iload_n 1, 1) := by decide +kernel
theorem dX1_erase_10 : decode cX1_erase 10 = .ok (.iaload, 1) := by decide +kernel
theorem dX1_erase_11 : decode cX1_erase 11 = .ok (.aload_n 0, 1) := by decide +kernel
theorem dX1_erase_12 : decode cX1_erase 12 = .ok (.getfield 43, 3) := by decide +kernel
theorem dX1_erase_15 : decode cX1_erase 15 = .ok (.iload_n 1, 1) := by decide +kernel
theorem dX1_erase_16 : decode cX1_erase 16 = .ok (.iaload, 1) := by decide +kernel
theorem dX1_erase_17 : decode cX1_erase 17 = .ok (.invokestatic 73, 3) := by decide +kernel
theorem dX1_erase_20 : decode cX1_erase 20 = .ok (.isub, 1) := by decide +kernel
theorem dX1_erase_21 : decode cX1_erase 21 = .ok (.putfield 24, 3) := by decide +kernel
theorem dX1_erase_24 : decode cX1_erase 24 = .ok (.aload_n 0, 1) := by decide +kernel
theorem dX1_erase_25 : decode cX1_erase 25 = .ok (.getfield 39, 3) := by decide +kernel
theorem dX1_erase_28 : decode cX1_erase 28 = .ok (.iload_n 1, 1) := by decide +kernel
theorem dX1_erase_29 : decode cX1_erase 29 = .ok (.iaload, 1) := by decide +kernel
theorem dX1_erase_30 : decode cX1_erase 30 = .ok (.iconst 2, 1) := by decide +kernel
theorem dX1_erase_31 : decode cX1_erase 31 = .ok (.if_icmp .ne 13, 3) := by decide +kernel
theorem dX1_erase_34 : decode cX1_erase 34 = .ok (.aload_n 0, 1) := by decide +kernel
theorem dX1_erase_35 : decode cX1_erase 35 = .ok (.dup, 1) := by decide +kernel
theorem dX1_erase_36 : decode cX1_erase 36 = .ok (.getfield 21, 3) := by decide +kernel
theorem dX1_erase_39 : decode cX1_erase 39 = .ok (.iconst 1, 1) := by decide +kernel
theorem dX1_erase_40 : decode cX1_erase 40 = .ok (.isub, 1) := by decide +kernel
theorem dX1_erase_41 : decode cX1_erase 41 = .ok (.putfield 21, 3) := by decide +kernel
theorem dX1_erase_44 : decode cX1_erase 44 = .ok (.aload_n 0, 1) := by decide +kernel
theorem dX1_erase_45 : decode cX1_erase 45 = .ok (.getfield 39, 3) := by decide +kernel
theorem dX1_erase_48 : decode cX1_erase 48 = .ok (.iload_n 1, 1) := by decide +kernel
theorem dX1_erase_49 : decode cX1_erase 49 = .ok (.iconst 0, 1) := by decide +kernel
theorem dX1_erase_50 : decode cX1_erase 50 = .ok (.iastore, 1) := by decide +kernel
theorem dX1_erase_51 : decode cX1_erase 51 = .ok (.return_, 1) := by decide +kernel
theorem dX1_write_0 : decode cX1_write 0 = .ok (.aload_n 0, 1) := by decide +kernel
theorem dX1_write_1 : decode cX1_write 1 = .ok (.getfield 39, 3) := by decide +kernel
theorem dX1_write_4 : decode cX1_write 4 = .ok (.iload_n 1, 1) := by decide +kernel
theorem dX1_write_5 : decode cX1_write 5 = .ok (.iload_n 2, 1) := by decide +kernel
theorem dX1_write_6 : decode cX1_write 6 = .ok (.iastore, 1) := by decide +kernel
theorem dX1_write_7 : decode cX1_write 7 = .ok (.aload_n 0, 1) := by decide +kernel
theorem dX1_write_8 : decode cX1_write 8 = .ok (.getfield 43, 3) := by decide +kernel
theorem dX1_write_11 : decode cX1_write 11 = .ok (.iload_n 1, 1) := by decide +kernel
theorem dX1_write_12 : decode cX1_write 12 = .ok (.iload_n 3, 1) := by decide +kernel
theorem dX1_write_13 : decode cX1_write 13 = .ok (.iastore, 1) := by decide +kernel
theorem dX1_write_14 : decode cX1_write 14 = .ok (.aload_n 0, 1) := by decide +kernel
theorem dX1_write_15 : decode cX1_write 15 = .ok (.getfield 46, 3) := by decide +kernel
theorem dX1_write_18 : decode cX1_write 18 = .ok (.iload_n 1, 1) := by decide +kernel
theorem dX1_write_19 : decode cX1_write 19 = .ok (.iload 4, 2) := by decide +kernel
theorem dX1_write_21 : decode cX1_write 21 = .ok (.iastore, 1) := by decide +kernel
theorem dX1_write_22 : decode cX1_write 22 = .ok (.aload_n 0, 1) := by decide +kernel
theorem dX1_write_23 : decode cX1_write 23 = .ok (.getfield 49, 3) := by decide +kernel
theorem dX1_write_26 : decode cX1_write 26 = .ok (.iload_n 1, 1) := by decide +kernel
theorem dX1_write_27 : decode cX1_write 27 = .ok (.iload 5, 2) := by decide +kernel
theorem dX1_write_29 : decode cX1_write 29 = .ok (.iastore, 1) := by decide +kernel
theorem dX1_write_30 : decode cX1_write 30 = .ok (.aload_n 0, 1) := by decide +kernel
theorem dX1_write_31 : decode cX1_write 31 = .ok (.dup, 1) := by decide +kernel
theorem dX1_write_32 : decode cX1_write 32 = .ok (.getfield 24, 3) := by decide +kernel
theorem dX1_write_35 : decode cX1_write 35 = .ok (.iload_n 2, 1) := by decide +kernel
theorem dX1_write_36 : decode cX1_write 36 = .ok (.iload_n 3, 1) := by decide +kernel
theorem dX1_write_37 : decode cX1_write 37 = .ok (.invokestatic 73, 3) := by decide +kernel
theorem dX1_write_40 : decode cX1_write 40 = .ok (.iadd, 1) := by decide +kernel
theorem dX1_write_41 : decode cX1_write 41 = .ok (.putfield 24, 3) := by decide +kernel
theorem dX1_write_44 : decode cX1_write 44 = .ok (.iload_n 2, 1) := by decide +kernel
theorem dX1_write_45 : decode cX1_write 45 = .ok (.iconst 2, 1) := by decide +kernel
theorem dX1_write_46 : decode cX1_write 46 = .ok (.if_icmp .ne 13, 3) := by decide +kernel
theorem dX1_write_49 : decode cX1_write 49 = .ok (.aload_n 0, 1) := by decide +kernel
theorem dX1_write_50 : decode cX1_write 50 = .ok (.dup, 1) := by decide +kernel
theorem dX1_write_51 : decode cX1_write 51 = .ok (.getfield 21, 3) := by decide +kernel
theorem dX1_write_54 : decode cX1_write 54 = .ok (.iconst 1, 1) := by decide +kernel
theorem dX1_write_55 : decode cX1_write 55 = .ok (.iadd, 1) := by decide +kernel
theorem dX1_write_56 : decode cX1_write 56 = .ok (.putfield 21, 3) := by decide +kernel
theorem dX1_write_59 : decode cX1_write 59 = .ok (.return_, 1) := by decide +kernel
theorem dX2_init_0 : decode cX2_init 0 = .ok (.aload_n 0, 1) := by decide +kernel
theorem dX2_init_1 : decode cX2_init 1 = .ok (.invokespecial 3, 3) := by decide +kernel
theorem dX2_init_4 : decode cX2_init 4 = .ok (.aload_n 0, 1) := by decide +kernel
theorem dX2_init_5 : decode cX2_init 5 = .ok (.bipush 96, 2) := by decide +kernel
theorem dX2_init_7 : decode cX2_init 7 = .ok (.anewarray 9, 3) := by decide +kernel
theorem dX2_init_10 : decode cX2_init 10 = .ok (.putfield 11, 3) := by decide +kernel
theorem dX2_init_13 : decode cX2_init 13 = .ok (.iconst 0, 1) := by decide +kernel
theorem dX2_init_14 : decode cX2_init 14 = .ok (.istore_n 1, 1) := by decide +kernel
theorem dX2_init_15 : decode cX2_init 15 = .ok (.iload_n 1, 1) := by decide +kernel
theorem dX2_init_16 : decode cX2_init 16 = .ok (.bipush 96, 2) := by decide +kernel
theorem dX2_init_18 : decode cX2_init 18 = .ok (.if_icmp .ge 22, 3) := by decide +kernel
theorem dX2_init_21 : decode cX2_init 21 = .ok (.aload_n 0, 1) := by decide +kernel
theorem dX2_init_22 : decode cX2_init 22 = .ok (.getfield 11, 3) := by decide +kernel
theorem dX2_init_25 : decode cX2_init 25 = .ok (.iload_n 1, 1) := by decide +kernel
theorem dX2_init_26 : decode cX2_init 26 = .ok (.new 9, 3) := by decide +kernel
theorem dX2_init_29 : decode cX2_init 29 = .ok (.dup, 1) := by decide +kernel
theorem dX2_init_30 : decode cX2_init 30 = .ok (.invokespecial 17, 3) := by decide +kernel
theorem dX2_init_33 : decode cX2_init 33 = .ok (.aastore, 1) := by decide +kernel
theorem dX2_init_34 : decode cX2_init 34 = .ok (.iinc 1 1, 3) := by decide +kernel
theorem dX2_init_37 : decode cX2_init 37 = .ok (.goto (-22), 3) := by decide +kernel
theorem dX2_init_40 : decode cX2_init 40 = .ok (.return_, 1) := by decide +kernel
theorem dX2_copyFrom_0 : decode cX2_copyFrom 0 = .ok (.iconst 0, 1) := by decide +kernel
theorem dX2_copyFrom_1 : decode cX2_copyFrom 1 = .ok (.istore_n 2, 1) := by decide +kernel
theorem dX2_copyFrom_2 : decode cX2_copyFrom 2 = .ok (.iload_n 2, 1) := by decide +kernel
theorem dX2_copyFrom_3 : decode cX2_copyFrom 3 = .ok (.bipush 96, 2) := by decide +kernel
theorem dX2_copyFrom_5 : decode cX2_copyFrom 5 = .ok (.if_icmp .ge 24, 3) := by decide +kernel
theorem dX2_copyFrom_8 : decode cX2_copyFrom 8 = .ok (.aload_n 0, 1) := by decide +kernel
theorem dX2_copyFrom_9 : decode cX2_copyFrom 9 = .ok (.getfield 11, 3) := by decide +kernel
theorem dX2_copyFrom_12 : decode cX2_copyFrom 12 = .ok (.iload_n 2, 1) := by decide +kernel
theorem dX2_copyFrom_13 : decode cX2_copyFrom 13 = .ok (.aaload, 1) := by decide +kernel
theorem dX2_copyFrom_14 : decode cX2_copyFrom 14 = .ok (.aload_n 1, 1) := by decide +kernel
theorem dX2_copyFrom_15 : decode cX2_copyFrom 15 = .ok (.getfield 11, 3) := by decide +kernel
theorem dX2_copyFrom_18 : decode cX2_copyFrom 18 = .ok (.iload_n 2, 1) := by decide +kernel
theorem dX2_copyFrom_19 : decode cX2_copyFrom 19 = .ok (.aaload, 1) := by decide +kernel
theorem dX2_copyFrom_20 : decode cX2_copyFrom 20 = .ok (.invokevirtual 18, 3) := by decide +kernel
theorem dX2_copyFrom_23 : decode cX2_copyFrom 23 = .ok (.iinc 2 1, 3) := by decide +kernel
theorem dX2_copyFrom_26 : decode cX2_copyFrom 26 = .ok (.goto (-24), 3) := by decide +kernel
theorem dX2_copyFrom_29 : decode cX2_copyFrom 29 = .ok (.return_, 1) := by decide +kernel
theorem dX2_hasRecord_0 : decode cX2_hasRecord 0 = .ok (.iload_n 1, 1) := by decide +kernel
theorem dX2_hasRecord_1 : decode cX2_hasRecord 1 = .ok (.ifCond .lt 33, 3) := by decide +kernel
theorem dX2_hasRecord_4 : decode cX2_hasRecord 4 = .ok (.iload_n 1, 1) := by decide +kernel
theorem dX2_hasRecord_5 : decode cX2_hasRecord 5 = .ok (.sipush 3072, 3) := by decide +kernel
theorem dX2_hasRecord_8 : decode cX2_hasRecord 8 = .ok (.if_icmp .ge 26, 3) := by decide +kernel
theorem dX2_hasRecord_11 : decode cX2_hasRecord 11 = .ok (.aload_n 0, 1) := by decide +kernel
theorem dX2_hasRecord_12 : decode cX2_hasRecord 12 = .ok (.getfield 11, 3) := by decide +kernel
theorem dX2_hasRecord_15 : decode cX2_hasRecord 15 = .ok (.iload_n 1, 1) := by decide +kernel
theorem dX2_hasRecord_16 : decode cX2_hasRecord 16 = .ok (.bipush 32, 2) := by decide +kernel
theorem dX2_hasRecord_18 : decode cX2_hasRecord 18 = .ok (.idiv, 1) := by decide +kernel
theorem dX2_hasRecord_19 : decode cX2_hasRecord 19 = .ok (.aaload, 1) := by decide +kernel
theorem dX2_hasRecord_20 : decode cX2_hasRecord 20 = .ok (.iload_n 1, 1) := by decide +kernel
theorem dX2_hasRecord_21 : decode cX2_hasRecord 21 = .ok (.bipush 32, 2) := by decide +kernel
theorem dX2_hasRecord_23 : decode cX2_hasRecord 23 = .ok (.irem, 1) := by decide +kernel
theorem dX2_hasRecord_24 : decode cX2_hasRecord 24 = .ok (.invokevirtual 22, 3) := by decide +kernel
theorem dX2_hasRecord_27 : decode cX2_hasRecord 27 = .ok (.ifCond .eq 7, 3) := by decide +kernel
theorem dX2_hasRecord_30 : decode cX2_hasRecord 30 = .ok (.iconst 1, 1) := by decide +kernel
theorem dX2_hasRecord_31 : decode cX2_hasRecord 31 = .ok (.goto 4, 3) := by decide +kernel
theorem dX2_hasRecord_34 : decode cX2_hasRecord 34 = .ok (.iconst 0, 1) := by decide +kernel
theorem dX2_hasRecord_35 : decode cX2_hasRecord 35 = .ok (.ireturn, 1) := by decide +kernel
theorem dX2_firstRecordFrom_0 : decode cX2_firstRecordFrom 0 = .ok (.iload_n 1, 1) := by decide +kernel
theorem dX2_firstRecordFrom_1 : decode cX2_firstRecordFrom 1 = .ok (.bipush 32, 2) := by decide +kernel
theorem dX2_firstRecordFrom_3 : decode cX2_firstRecordFrom 3 = .ok (.irem, 1) := by decide +kernel
theorem dX2_firstRecordFrom_4 : decode cX2_firstRecordFrom 4 = .ok (.istore_n 2, 1) := by decide +kernel
theorem dX2_firstRecordFrom_5 : decode cX2_firstRecordFrom 5 = .ok (.iload_n 1, 1) := by decide +kernel
theorem dX2_firstRecordFrom_6 : decode cX2_firstRecordFrom 6 = .ok (.bipush 32, 2) := by decide +kernel
theorem dX2_firstRecordFrom_8 : decode cX2_firstRecordFrom 8 = .ok (.idiv, 1) := by decide +kernel
theorem dX2_firstRecordFrom_9 : decode cX2_firstRecordFrom 9 = .ok (.istore_n 3, 1) := by decide +kernel
theorem dX2_firstRecordFrom_10 : decode cX2_firstRecordFrom 10 = .ok (.iload_n 3, 1) := by decide +kernel
theorem dX2_firstRecordFrom_11 : decode cX2_firstRecordFrom 11 = .ok (.bipush 96, 2) := by decide +kernel
theorem dX2_firstRecordFrom_13 : decode cX2_firstRecordFrom 13 = .ok (.if_icmp .ge 37, 3) := by decide +kernel
theorem dX2_firstRecordFrom_16 : decode cX2_firstRecordFrom 16 = .ok (.aload_n 0, 1) := by decide +kernel
theorem dX2_firstRecordFrom_17 : decode cX2_firstRecordFrom 17 = .ok (.getfield 11, 3) := by decide +kernel
theorem dX2_firstRecordFrom_20 : decode cX2_firstRecordFrom 20 = .ok (.iload_n 3, 1) := by decide +kernel
theorem dX2_firstRecordFrom_21 : decode cX2_firstRecordFrom 21 = .ok (.aaload, 1) := by decide +kernel
theorem dX2_firstRecordFrom_22 : decode cX2_firstRecordFrom 22 = .ok (.iload_n 2, 1) := by decide +kernel
theorem dX2_firstRecordFrom_23 : decode cX2_firstRecordFrom 23 = .ok (.invokevirtual 26, 3) := by decide +kernel
theorem dX2_firstRecordFrom_26 : decode cX2_firstRecordFrom 26 = .ok (.istore 4, 2) := by decide +kernel
theorem dX2_firstRecordFrom_28 : decode cX2_firstRecordFrom 28 = .ok (.iload 4, 2) := by decide +kernel
theorem dX2_firstRecordFrom_30 : decode cX2_firstRecordFrom 30 = .ok (.iconst (-1), 1) := by decide +kernel
theorem dX2_firstRecordFrom_31 : decode cX2_firstRecordFrom 31 = .ok (.if_icmp .eq 11, 3) := by decide +kernel
theorem dX2_firstRecordFrom_34 : decode cX2_firstRecordFrom 34 = .ok (.iload_n 3, 1) := by decide +kernel
theorem dX2_firstRecordFrom_35 : decode cX2_firstRecordFrom 35 = .ok (.bipush 32, 2) := by decide +kernel
theorem dX2_firstRecordFrom_37 : decode cX2_firstRecordFrom 37 = .ok (.imul, 1) := by decide +kernel
theorem dX2_firstRecordFrom_38 : decode cX2_firstRecordFrom 38 = .ok (.iload 4, 2) := by decide +kernel
theorem dX2_firstRecordFrom_40 : decode cX2_firstRecordFrom 40 = .ok (.iadd, 1) := by decide +kernel
theorem dX2_firstRecordFrom_41 : decode cX2_firstRecordFrom 41 = .ok (.ireturn, 1) := by decide +kernel
theorem dX2_firstRecordFrom_42 : decode cX2_firstRecordFrom 42 = .ok (.iconst 0, 1) := by decide +kernel
theorem dX2_firstRecordFrom_43 : decode cX2_firstRecordFrom 43 = .ok (.istore_n 2, 1) := by decide +kernel
theorem dX2_firstRecordFrom_44 : decode cX2_firstRecordFrom 44 = .ok (.iinc 3 1, 3) := by decide +kernel
theorem dX2_firstRecordFrom_47 : decode cX2_firstRecordFrom 47 = .ok (.goto (-37), 3) := by decide +kernel
theorem dX2_firstRecordFrom_50 : decode cX2_firstRecordFrom 50 = .ok (.iconst (-1), 1) := by decide +kernel
theorem dX2_firstRecordFrom_51 : decode cX2_firstRecordFrom 51 = .ok (.ireturn, 1) := by decide +kernel
theorem dX2_valueCell_0 : decode cX2_valueCell 0 = .ok (.aload_n 0, 1) := by decide +kernel
theorem dX2_valueCell_1 : decode cX2_valueCell 1 = .ok (.getfield 11, 3) := by decide +kernel
theorem dX2_valueCell_4 : decode cX2_valueCell 4 = .ok (.iload_n 1, 1) := by decide +kernel
theorem dX2_valueCell_5 : decode cX2_valueCell 5 = .ok (.bipush 32, 2) := by decide +kernel
theorem dX2_valueCell_7 : decode cX2_valueCell 7 = .ok (.idiv, 1) := by decide +kernel
theorem dX2_valueCell_8 : decode cX2_valueCell 8 = .ok (.aaload, 1) := by decide +kernel
theorem dX2_valueCell_9 : decode cX2_valueCell 9 = .ok (.astore_n 2, 1) := by decide +kernel
theorem dX2_valueCell_10 : decode cX2_valueCell 10 = .ok (.iload_n 1, 1) := by decide +kernel
theorem dX2_valueCell_11 : decode cX2_valueCell 11 = .ok (.bipush 32, 2) := by decide +kernel
theorem dX2_valueCell_13 : decode cX2_valueCell 13 = .ok (.irem, 1) := by decide +kernel
theorem dX2_valueCell_14 : decode cX2_valueCell 14 = .ok (.istore_n 3, 1) := by decide +kernel
theorem dX2_valueCell_15 : decode cX2_valueCell 15 = .ok (.aload_n 2, 1) := by decide +kernel
theorem dX2_valueCell_16 : decode cX2_valueCell 16 = .ok (.getfield 30, 3) := by decide +kernel
theorem dX2_valueCell_19 : decode cX2_valueCell 19 = .ok (.iload_n 3, 1) := by decide +kernel
theorem dX2_valueCell_20 : decode cX2_valueCell 20 = .ok (.iaload, 1) := by decide +kernel
theorem dX2_valueCell_21 : decode cX2_valueCell 21 = .ok (.iconst 2, 1) := by decide +kernel
theorem dX2_valueCell_22 : decode cX2_valueCell 22 = .ok (.if_icmp .ne 12, 3) := by decide +kernel
theorem dX2_valueCell_25 : decode cX2_valueCell 25 = .ok (.aload_n 2, 1) := by decide +kernel
theorem dX2_valueCell_26 : decode cX2_valueCell 26 = .ok (.getfield 34, 3) := by decide +kernel
theorem dX2_valueCell_29 : decode cX2_valueCell 29 = .ok (.iload_n 3, 1) := by decide +kernel
theorem dX2_valueCell_30 : decode cX2_valueCell 30 = .ok (.iaload, 1) := by decide +kernel
theorem dX2_valueCell_31 : decode cX2_valueCell 31 = .ok (.goto 4, 3) := by decide +kernel
theorem dX2_valueCell_34 : decode cX2_valueCell 34 = .ok (.iload_n 1, 1) := by decide +kernel
theorem dX2_valueCell_35 : decode cX2_valueCell 35 = .ok (.ireturn, 1) := by decide +kernel
theorem dX2_lengthOf_0 : decode cX2_lengthOf 0 = .ok (.aload_n 0, 1) := by decide +kernel
theorem dX2_lengthOf_1 : decode cX2_lengthOf 1 = .ok (.iload_n 1, 1) := by decide +kernel
theorem dX2_lengthOf_2 : decode cX2_lengthOf 2 = .ok (.invokevirtual 37, 3) := by decide +kernel
theorem dX2_lengthOf_5 : decode cX2_lengthOf 5 = .ok (.istore_n 2, 1) := by decide +kernel
theorem dX2_lengthOf_6 : decode cX2_lengthOf 6 = .ok (.aload_n 0, 1) := by decide +kernel
theorem dX2_lengthOf_7 : decode cX2_lengthOf 7 = .ok (.getfield 11, 3) := by decide +kernel
theorem dX2_lengthOf_10 : decode cX2_lengthOf 10 = .ok (.iload_n 2, 1) := by decide +kernel
theorem dX2_lengthOf_11 : decode cX2_lengthOf 11 = .ok (.bipush 32, 2) := by decide +kernel
theorem dX2_lengthOf_13 : decode cX2_lengthOf 13 = .ok (.idiv, 1) := by decide +kernel
theorem dX2_lengthOf_14 : decode cX2_lengthOf 14 = .ok (.aaload, 1) := by decide +kernel
theorem dX2_lengthOf_15 : decode cX2_lengthOf 15 = .ok (.getfield 40, 3) := by decide +kernel
theorem dX2_lengthOf_18 : decode cX2_lengthOf 18 = .ok (.iload_n 2, 1) := by decide +kernel
theorem dX2_lengthOf_19 : decode cX2_lengthOf 19 = .ok (.bipush 32, 2) := by decide +kernel
theorem dX2_lengthOf_21 : decode cX2_lengthOf 21 = .ok (.irem, 1) := by decide +kernel
theorem dX2_lengthOf_22 : decode cX2_lengthOf 22 = .ok (.iaload, 1) := by decide +kernel
theorem dX2_lengthOf_23 : decode cX2_lengthOf 23 = .ok (.ireturn, 1) := by decide +kernel
theorem dX2_seedOf_0 : decode cX2_seedOf 0 = .ok (.aload_n 0, 1) := by decide +kernel
theorem dX2_seedOf_1 : decode cX2_seedOf 1 = .ok (.iload_n 1, 1) := by decide +kernel
theorem dX2_seedOf_2 : decode cX2_seedOf 2 = .ok (.invokevirtual 37, 3) := by decide +kernel
theorem dX2_seedOf_5 : decode cX2_seedOf 5 = .ok (.istore_n 2, 1) := by decide +kernel
theorem dX2_seedOf_6 : decode cX2_seedOf 6 = .ok (.aload_n 0, 1) := by decide +kernel
theorem dX2_seedOf_7 : decode cX2_seedOf 7 = .ok (.getfield 11, 3) := by decide +kernel
theorem dX2_seedOf_10 : decode cX2_seedOf 10 = .ok (.iload_n 2, 1) := by decide +kernel
theorem dX2_seedOf_11 : decode cX2_seedOf 11 = .ok (.bipush 32, 2) := by decide +kernel
theorem dX2_seedOf_13 : decode cX2_seedOf 13 = .ok (.idiv, 1) := by decide +kernel
theorem dX2_seedOf_14 : decode cX2_seedOf 14 = .ok (.aaload, 1) := by decide +kernel
theorem dX2_seedOf_15 : decode cX2_seedOf 15 = .ok (.getfield 43, 3) := by decide +kernel
theorem dX2_seedOf_18 : decode cX2_seedOf 18 = .ok (.iload_n 2, 1) := by decide +kernel
theorem dX2_seedOf_19 : decode cX2_seedOf 19 = .ok (.bipush 32, 2) := by decide +kernel
theorem dX2_seedOf_21 : decode cX2_seedOf 21 = .ok (.irem, 1) := by decide +kernel
theorem dX2_seedOf_22 : decode cX2_seedOf 22 = .ok (.iaload, 1) := by decide +kernel
theorem dX2_seedOf_23 : decode cX2_seedOf 23 = .ok (.ireturn, 1) := by decide +kernel
theorem dX2_chainOf_0 : decode cX2_chainOf 0 = .ok (.aload_n 0, 1) := by decide +kernel
theorem dX2_chainOf_1 : decode cX2_chainOf 1 = .ok (.iload_n 1, 1) := by decide +kernel
theorem dX2_chainOf_2 : decode cX2_chainOf 2 = .ok (.invokevirtual 37, 3) := by decide +kernel
theorem dX2_chainOf_5 : decode cX2_chainOf 5 = .ok (.istore_n 2, 1) := by decide +kernel
theorem dX2_chainOf_6 : decode cX2_chainOf 6 = .ok (.aload_n 0, 1) := by decide +kernel
theorem dX2_chainOf_7 : decode cX2_chainOf 7 = .ok (.getfield 11, 3) := by decide +kernel
theorem dX2_chainOf_10 : decode cX2_chainOf 10 = .ok (.iload_n 2, 1) := by decide +kernel
theorem dX2_chainOf_11 : decode cX2_chainOf 11 = .ok (.bipush 32, 2) := by decide +kernel
theorem dX2_chainOf_13 : decode cX2_chainOf 13 = .ok (.idiv, 1) := by decide +kernel
theorem dX2_chainOf_14 : decode cX2_chainOf 14 = .ok (.aaload, 1) := by decide +kernel
theorem dX2_chainOf_15 : decode cX2_chainOf 15 = .ok (.getfield 34, 3) := by decide +kernel
theorem dX2_chainOf_18 : decode cX2_chainOf 18 = .ok (.iload_n 2, 1) := by decide +kernel
theorem dX2_chainOf_19 : decode cX2_chainOf 19 = .ok (.bipush 32, 2) := by decide +kernel
theorem dX2_chainOf_21 : decode cX2_chainOf 21 = .ok (.irem, 1) := by decide +kernel
theorem dX2_chainOf_22 : decode cX2_chainOf 22 = .ok (.iaload, 1) := by decide +kernel
theorem dX2_chainOf_23 : decode cX2_chainOf 23 = .ok (.ireturn, 1) := by decide +kernel
theorem dX2_addRecord_0 : decode cX2_addRecord 0 = .ok (.aload_n 0, 1) := by decide +kernel
theorem dX2_addRecord_1 : decode cX2_addRecord 1 = .ok (.iload_n 1, 1) := by decide +kernel
theorem dX2_addRecord_2 : decode cX2_addRecord 2 = .ok (.invokevirtual 46, 3) := by decide +kernel
theorem dX2_addRecord_5 : decode cX2_addRecord 5 = .ok (.ifCond .ne 5, 3) := by decide +kernel
theorem dX2_addRecord_8 : decode cX2_addRecord 8 = .ok (.iconst (-1), 1) := by decide +kernel
theorem dX2_addRecord_9 : decode cX2_addRecord 9 = .ok (.ireturn, 1) := by decide +kernel
theorem dX2_addRecord_10 : decode cX2_addRecord 10 = .ok (.aload_n 0, 1) := by decide +kernel
theorem dX2_addRecord_11 : decode cX2_addRecord 11 = .ok (.iload_n 1, 1) := by decide +kernel
theorem dX2_addRecord_12 : decode cX2_addRecord 12 = .ok (.invokevirtual 49, 3) := by decide +kernel
theorem dX2_addRecord_15 : decode cX2_addRecord 15 = .ok (.istore_n 3, 1) := by decide +kernel
theorem dX2_addRecord_16 : decode cX2_addRecord 16 = .ok (.aload_n 0, 1) := by decide +kernel
theorem dX2_addRecord_17 : decode cX2_addRecord 17 = .ok (.iconst 1, 1) := by decide +kernel
theorem dX2_addRecord_18 : decode cX2_addRecord 18 = .ok (.iload_n 1, 1) := by decide +kernel
theorem dX2_addRecord_19 : decode cX2_addRecord 19 = .ok (.invokestatic 52, 3) := by decide +kernel
theorem dX2_addRecord_22 : decode cX2_addRecord 22 = .ok (.iconst (-1), 1) := by decide +kernel
theorem dX2_addRecord_23 : decode cX2_addRecord 23 = .ok (.iconst (-1), 1) := by decide +kernel
theorem dX2_addRecord_24 : decode cX2_addRecord 24 = .ok (.invokevirtual 56, 3) := by decide +kernel
theorem dX2_addRecord_27 : decode cX2_addRecord 27 = .ok (.istore 4, 2) := by decide +kernel
theorem dX2_addRecord_29 : decode cX2_addRecord 29 = .ok (.iload 4, 2) := by decide +kernel
theorem dX2_addRecord_31 : decode cX2_addRecord 31 = .ok (.iconst (-1), 1) := by decide +kernel
theorem dX2_addRecord_32 : decode cX2_addRecord 32 = .ok (.if_icmp .ne 10, 3) := by decide +kernel
theorem dX2_addRecord_35 : decode cX2_addRecord 35 = .ok (.aload_n 0, 1) := by decide +kernel
theorem dX2_addRecord_36 : decode cX2_addRecord 36 = .ok (.iload_n 3, 1) := by decide +kernel
theorem dX2_addRecord_37 : decode cX2_addRecord 37 = .ok (.invokevirtual 60, 3) := by decide +kernel
theorem dX2_addRecord_40 : decode cX2_addRecord 40 = .ok (.iconst (-1), 1) := by decide +kernel
theorem dX2_addRecord_41 : decode cX2_addRecord 41 = .ok (.ireturn, 1) := by decide +kernel
theorem dX2_addRecord_42 : decode cX2_addRecord 42 = .ok (.iload 4, 2) := by decide +kernel
theorem dX2_addRecord_44 : decode cX2_addRecord 44 = .ok (.bipush 32, 2) := by decide +kernel
theorem dX2_addRecord_46 : decode cX2_addRecord 46 = .ok (.imul, 1) := by decide +kernel
theorem dX2_addRecord_47 : decode cX2_addRecord 47 = .ok (.aload_n 0, 1) := by decide +kernel
theorem dX2_addRecord_48 : decode cX2_addRecord 48 = .ok (.getfield 11, 3) := by decide +kernel
theorem dX2_addRecord_51 : decode cX2_addRecord 51 = .ok (.iload 4, 2) := by decide +kernel
theorem dX2_addRecord_53 : decode cX2_addRecord 53 = .ok (.aaload, 1) := by decide +kernel
theorem dX2_addRecord_54 : decode cX2_addRecord 54 = .ok (.iconst 1, 1) := by decide +kernel
theorem dX2_addRecord_55 : decode cX2_addRecord 55 = .ok (.iload_n 1, 1) := by decide +kernel
theorem dX2_addRecord_56 : decode cX2_addRecord 56 = .ok (.iload_n 2, 1) := by decide +kernel
theorem dX2_addRecord_57 : decode cX2_addRecord 57 = .ok (.iload_n 3, 1) := by decide +kernel
theorem dX2_addRecord_58 : decode cX2_addRecord 58 = .ok (.invokevirtual 64, 3) := by decide +kernel
theorem dX2_addRecord_61 : decode cX2_addRecord 61 = .ok (.iadd, 1) := by decide +kernel
theorem dX2_addRecord_62 : decode cX2_addRecord 62 = .ok (.ireturn, 1) := by decide +kernel
theorem dX2_changeRecord_0 : decode cX2_changeRecord 0 = .ok (.aload_n 0, 1) := by decide +kernel
theorem dX2_changeRecord_1 : decode cX2_changeRecord 1 = .ok (.iload_n 2, 1) := by decide +kernel
theorem dX2_changeRecord_2 : decode cX2_changeRecord 2 = .ok (.invokevirtual 46, 3) := by decide +kernel
theorem dX2_changeRecord_5 : decode cX2_changeRecord 5 = .ok (.ifCond .ne 5, 3) := by decide +kernel
theorem dX2_changeRecord_8 : decode cX2_changeRecord 8 = .ok (.iconst 0, 1) := by decide +kernel
theorem dX2_changeRecord_9 : decode cX2_changeRecord 9 = .ok (.ireturn, 1) := by decide +kernel
theorem dX2_changeRecord_10 : decode cX2_changeRecord 10 = .ok (.aload_n 0, 1) := by decide +kernel
theorem dX2_changeRecord_11 : decode cX2_changeRecord 11 = .ok (.iload_n 1, 1) := by decide +kernel
theorem dX2_changeRecord_12 : decode cX2_changeRecord 12 = .ok (.invokevirtual 68, 3) := by decide +kernel
theorem dX2_changeRecord_15 : decode cX2_changeRecord 15 = .ok (.istore 4, 2) := by decide +kernel
theorem dX2_changeRecord_17 : decode cX2_changeRecord 17 = .ok (.aload_n 0, 1) := by decide +kernel
theorem dX2_changeRecord_18 : decode cX2_changeRecord 18 = .ok (.iload_n 2, 1) := by decide +kernel
theorem dX2_changeRecord_19 : decode cX2_changeRecord 19 = .ok (.invokevirtual 49, 3) := by decide +kernel
theorem dX2_changeRecord_22 : decode cX2_changeRecord 22 = .ok (.istore 5, 2) := by decide +kernel
theorem dX2_changeRecord_24 : decode cX2_changeRecord 24 = .ok (.aload_n 0, 1) := by decide +kernel
theorem dX2_changeRecord_25 : decode cX2_changeRecord 25 = .ok (.iload_n 1, 1) := by decide +kernel
theorem dX2_changeRecord_26 : decode cX2_changeRecord 26 = .ok (.invokevirtual 37, 3) := by decide +kernel
theorem dX2_changeRecord_29 : decode cX2_changeRecord 29 = .ok (.iload_n 1, 1) := by decide +kernel
theorem dX2_changeRecord_30 : decode cX2_changeRecord 30 = .ok (.if_icmp .ne 15, 3) := by decide +kernel
theorem dX2_changeRecord_33 : decode cX2_changeRecord 33 = .ok (.aload_n 0, 1) := by decide +kernel
theorem dX2_changeRecord_34 : decode cX2_changeRecord 34 = .ok (.iload_n 1, 1) := by decide +kernel
theorem dX2_changeRecord_35 : decode cX2_changeRecord 35 = .ok (.iload_n 2, 1) := by decide +kernel
theorem dX2_changeRecord_36 : decode cX2_changeRecord 36 = .ok (.iload_n 3, 1) := by decide +kernel
theorem dX2_changeRecord_37 : decode cX2_changeRecord 37 = .ok (.iload 5, 2) := by decide +kernel
theorem dX2_changeRecord_39 : decode cX2_changeRecord 39 = .ok (.invokevirtual 71, 3) := by decide +kernel
theorem dX2_changeRecord_42 : decode cX2_changeRecord 42 = .ok (.goto 12, 3) := by decide +kernel
theorem dX2_changeRecord_45 : decode cX2_changeRecord 45 = .ok (.aload_n 0, 1) := by decide +kernel
theorem dX2_changeRecord_46 : decode cX2_changeRecord 46 = .ok (.iload_n 1, 1) := by decide +kernel
theorem dX2_changeRecord_47 : decode cX2_changeRecord 47 = .ok (.iload_n 2, 1) := by decide +kernel
theorem dX2_changeRecord_48 : decode cX2_changeRecord 48 = .ok (.iload_n 3, 1) := by decide +kernel
theorem dX2_changeRecord_49 : decode cX2_changeRecord 49 = .ok (.iload 5, 2) := by decide +kernel
theorem dX2_changeRecord_51 : decode cX2_changeRecord 51 = .ok (.invokevirtual 75, 3) := by decide +kernel
theorem dX2_changeRecord_54 : decode cX2_changeRecord 54 = .ok (.istore 6, 2) := by decide +kernel
theorem dX2_changeRecord_56 : decode cX2_changeRecord 56 = .ok (.aload_n 0, 1) := by decide +kernel
theorem dX2_changeRecord_57 : decode cX2_changeRecord 57 = .ok (.iload 6, 2) := by decide +kernel
theorem dX2_changeRecord_59 : decode cX2_changeRecord 59 = .ok (.ifCond .eq 8, 3) := by decide +kernel
theorem dX2_changeRecord_62 : decode cX2_changeRecord 62 = .ok (.iload 4, 2) := by decide +kernel
theorem dX2_changeRecord_64 : decode cX2_changeRecord 64 = .ok (.goto 5, 3) := by decide +kernel
theorem dX2_changeRecord_67 : decode cX2_changeRecord 67 = .ok (.iload 5, 2) := by decide +kernel
theorem dX2_changeRecord_69 : decode cX2_changeRecord 69 = .ok (.invokevirtual 60, 3) := by decide +kernel
theorem dX2_changeRecord_72 : decode cX2_changeRecord 72 = .ok (.iload 6, 2) := by decide +kernel
theorem dX2_changeRecord_74 : decode cX2_changeRecord 74 = .ok (.ireturn, 1) := by decide +kernel
theorem dX2_removeRecord_0 : decode cX2_removeRecord 0 = .ok (.aload_n 0, 1) := by decide +kernel
theorem dX2_removeRecord_1 : decode cX2_removeRecord 1 = .ok (.iload_n 1, 1) := by decide +kernel
theorem dX2_removeRecord_2 : decode cX2_removeRecord 2 = .ok (.invokevirtual 37, 3) := by decide +kernel
theorem dX2_removeRecord_5 : decode cX2_removeRecord 5 = .ok (.istore_n 2, 1) := by decide +kernel
theorem dX2_removeRecord_6 : decode cX2_removeRecord 6 = .ok (.aload_n 0, 1) := by decide +kernel
theorem dX2_removeRecord_7 : decode cX2_removeRecord 7 = .ok (.aload_n 0, 1) := by decide +kernel
theorem dX2_removeRecord_8 : decode cX2_removeRecord 8 = .ok (.iload_n 1, 1) := by decide +kernel
theorem dX2_removeRecord_9 : decode cX2_removeRecord 9 = .ok (.invokevirtual 68, 3) := by decide +kernel
theorem dX2_removeRecord_12 : decode cX2_removeRecord 12 = .ok (.invokevirtual 60, 3) := by decide +kernel
theorem dX2_removeRecord_15 : decode cX2_removeRecord 15 = .ok (.iload_n 2, 1) := by decide +kernel
theorem dX2_removeRecord_16 : decode cX2_removeRecord 16 = .ok (.iload_n 1, 1) := by decide +kernel
theorem dX2_removeRecord_17 : decode cX2_removeRecord 17 = .ok (.if_icmp .eq 19, 3) := by decide +kernel
theorem dX2_removeRecord_20 : decode cX2_removeRecord 20 = .ok (.aload_n 0, 1) := by decide +kernel
theorem dX2_removeRecord_21 : decode cX2_removeRecord 21 = .ok (.getfield 11, 3) := by decide +kernel
theorem dX2_removeRecord_24 : decode cX2_removeRecord 24 = .ok (.iload_n 2, 1) := by decide +kernel
theorem dX2_removeRecord_25 : decode cX2_removeRecord 25 = .ok (.bipush 32, 2) := by decide +kernel
theorem dX2_removeRecord_27 : decode cX2_removeRecord 27 = .ok (.idiv, 1) := by decide +kernel
theorem dX2_removeRecord_28 : decode cX2_removeRecord 28 = .ok (.aaload, 1) := by decide +kernel
theorem dX2_removeRecord_29 : decode cX2_removeRecord 29 = .ok (.iload_n 2, 1) := by decide +kernel
theorem dX2_removeRecord_30 : decode cX2_removeRecord 30 = .ok (.bipush 32, 2) := by decide +kernel
theorem dX2_removeRecord_32 : decode cX2_removeRecord 32 = .ok (.irem, 1) := by decide +kernel
theorem dX2_removeRecord_33 : decode cX2_removeRecord 33 = .ok (.invokevirtual 78, 3) := by decide +kernel
theorem dX2_removeRecord_36 : decode cX2_removeRecord 36 = .ok (.aload_n 0, 1) := by decide +kernel
theorem dX2_removeRecord_37 : decode cX2_removeRecord 37 = .ok (.getfield 11, 3) := by decide +kernel
theorem dX2_removeRecord_40 : decode cX2_removeRecord 40 = .ok (.iload_n 1, 1) := by decide +kernel
theorem dX2_removeRecord_41 : decode cX2_removeRecord 41 = .ok (.bipush 32, 2) := by decide +kernel
theorem dX2_removeRecord_43 : decode cX2_removeRecord 43 = .ok (.idiv, 1) := by decide +kernel
theorem dX2_removeRecord_44 : decode cX2_removeRecord 44 = .ok (.aaload, 1) := by decide +kernel
theorem dX2_removeRecord_45 : decode cX2_removeRecord 45 = .ok (.iload_n 1, 1) := by decide +kernel
theorem dX2_removeRecord_46 : decode cX2_removeRecord 46 = .ok (.bipush 32, 2) := by decide +kernel
theorem dX2_removeRecord_48 : decode cX2_removeRecord 48 = .ok (.irem, 1) := by decide +kernel
theorem dX2_removeRecord_49 : decode cX2_removeRecord 49 = .ok (.invokevirtual 78, 3) := by decide +kernel
theorem dX2_removeRecord_52 : decode cX2_removeRecord 52 = .ok (.return_, 1) := by decide +kernel
theorem dX2_changeAtHome_0 : decode cX2_changeAtHome 0 = .ok (.aload_n 0, 1) := by decide +kernel
theorem dX2_changeAtHome_1 : decode cX2_changeAtHome 1 = .ok (.getfield 11, 3) := by decide +kernel
theorem dX2_changeAtHome_4 : decode cX2_changeAtHome 4 = .ok (.iload_n 1, 1) := by decide +kernel
theorem dX2_changeAtHome_5 : decode cX2_changeAtHome 5 = .ok (.bipush 32, 2) := by decide +kernel
theorem dX2_changeAtHome_7 : decode cX2_changeAtHome 7 = .ok (.idiv, 1) := by decide +kernel
theorem dX2_changeAtHome_8 : decode cX2_changeAtHome 8 = .ok (.aaload, 1) := by decide +kernel
theorem dX2_changeAtHome_9 : decode cX2_changeAtHome 9 = .ok (.astore 5, 2) := by decide +kernel
theorem dX2_changeAtHome_11 : decode cX2_changeAtHome 11 = .ok (.iload_n 1, 1) := by decide +kernel
theorem dX2_changeAtHome_12 : decode cX2_changeAtHome 12 = .ok (.bipush 32, 2) := by decide +kernel
theorem dX2_changeAtHome_14 : decode cX2_changeAtHome 14 = .ok (.irem, 1) := by decide +kernel
theorem dX2_changeAtHome_15 : decode cX2_changeAtHome 15 = .ok (.istore 6, 2) := by decide +kernel
theorem dX2_changeAtHome_17 : decode cX2_changeAtHome 17 = .ok (.aload 5, 2) := by decide +kernel
theorem dX2_changeAtHome_19 : decode cX2_changeAtHome 19 = .ok (.iload 6, 2) := by decide +kernel
theorem dX2_changeAtHome_21 : decode cX2_changeAtHome 21 = .ok (.iconst 1, 1) := by decide +kernel
theorem dX2_changeAtHome_22 : decode cX2_changeAtHome 22 = .ok (.iload_n 2, 1) := by decide +kernel
theorem dX2_changeAtHome_23 : decode cX2_changeAtHome 23 = .ok (.invokestatic 52, 3) := by decide +kernel
theorem dX2_changeAtHome_26 : decode cX2_changeAtHome 26 = .ok (.invokevirtual 81, 3) := by decide +kernel
theorem dX2_changeAtHome_29 : decode cX2_changeAtHome 29 = .ok (.ifCond .eq 17, 3) := by decide +kernel
theorem dX2_changeAtHome_32 : decode cX2_changeAtHome 32 = .ok (.aload 5, 2) := by decide +kernel
theorem dX2_changeAtHome_34 : decode cX2_changeAtHome 34 = .ok (.iload 6, 2) := by decide +kernel
theorem dX2_changeAtHome_36 : decode cX2_changeAtHome 36 = .ok (.iconst 1, 1) := by decide +kernel
theorem dX2_changeAtHome_37 : decode cX2_changeAtHome 37 = .ok (.iload_n 2, 1) := by decide +kernel
theorem dX2_changeAtHome_38 : decode cX2_changeAtHome 38 = .ok (.iload_n 3, 1) := by decide +kernel
theorem dX2_changeAtHome_39 : decode cX2_changeAtHome 39 = .ok (.iload 4, 2) := by decide +kernel
theorem dX2_changeAtHome_41 : decode cX2_changeAtHome 41 = .ok (.invokevirtual 85, 3) := by decide +kernel
theorem dX2_changeAtHome_44 : decode cX2_changeAtHome 44 = .ok (.iconst 1, 1) := by decide +kernel
theorem dX2_changeAtHome_45 : decode cX2_changeAtHome 45 = .ok (.ireturn, 1) := by decide +kernel
theorem dX2_changeAtHome_46 : decode cX2_changeAtHome 46 = .ok (.aload_n 0, 1) := by decide +kernel
theorem dX2_changeAtHome_47 : decode cX2_changeAtHome 47 = .ok (.iconst 3, 1) := by decide +kernel
theorem dX2_changeAtHome_48 : decode cX2_changeAtHome 48 = .ok (.iload_n 2, 1) := by decide +kernel
theorem dX2_changeAtHome_49 : decode cX2_changeAtHome 49 = .ok (.invokestatic 52, 3) := by decide +kernel
theorem dX2_changeAtHome_52 : decode cX2_changeAtHome 52 = .ok (.iload_n 1, 1) := by decide +kernel
theorem dX2_changeAtHome_53 : decode cX2_changeAtHome 53 = .ok (.bipush 32, 2) := by decide +kernel
theorem dX2_changeAtHome_55 : decode cX2_changeAtHome 55 = .ok (.idiv, 1) := by decide +kernel
theorem dX2_changeAtHome_56 : decode cX2_changeAtHome 56 = .ok (.iconst (-1), 1) := by decide +kernel
theorem dX2_changeAtHome_57 : decode cX2_changeAtHome 57 = .ok (.invokevirtual 56, 3) := by decide +kernel
theorem dX2_changeAtHome_60 : decode cX2_changeAtHome 60 = .ok (.istore 7, 2) := by decide +kernel
theorem dX2_changeAtHome_62 : decode cX2_changeAtHome 62 = .ok (.iload 7, 2) := by decide +kernel
theorem dX2_changeAtHome_64 : decode cX2_changeAtHome 64 = .ok (.iconst (-1), 1) := by decide +kernel
theorem dX2_changeAtHome_65 : decode cX2_changeAtHome 65 = .ok (.if_icmp .ne 5, 3) := by decide +kernel
theorem dX2_changeAtHome_68 : decode cX2_changeAtHome 68 = .ok (.iconst 0, 1) := by decide +kernel
theorem dX2_changeAtHome_69 : decode cX2_changeAtHome 69 = .ok (.ireturn, 1) := by decide +kernel
theorem dX2_changeAtHome_70 : decode cX2_changeAtHome 70 = .ok (.iload 7, 2) := by decide +kernel
theorem dX2_changeAtHome_72 : decode cX2_changeAtHome 72 = .ok (.bipush 32, 2) := by decide +kernel
theorem dX2_changeAtHome_74 : decode cX2_changeAtHome 74 = .ok (.imul, 1) := by decide +kernel
theorem dX2_changeAtHome_75 : decode cX2_changeAtHome 75 = .ok (.aload_n 0, 1) := by decide +kernel
theorem dX2_changeAtHome_76 : decode cX2_changeAtHome 76 = .ok (.getfield 11, 3) := by decide +kernel
theorem dX2_changeAtHome_79 : decode cX2_changeAtHome 79 = .ok (.iload 7, 2) := by decide +kernel
theorem dX2_changeAtHome_81 : decode cX2_changeAtHome 81 = .ok (.aaload, 1) := by decide +kernel
theorem dX2_changeAtHome_82 : decode cX2_changeAtHome 82 = .ok (.iconst 3, 1) := by decide +kernel
theorem dX2_changeAtHome_83 : decode cX2_changeAtHome 83 = .ok (.iload_n 2, 1) := by decide +kernel
theorem dX2_changeAtHome_84 : decode cX2_changeAtHome 84 = .ok (.iload_n 3, 1) := by decide +kernel
theorem dX2_changeAtHome_85 : decode cX2_changeAtHome 85 = .ok (.iload 4, 2) := by decide +kernel
theorem dX2_changeAtHome_87 : decode cX2_changeAtHome 87 = .ok (.invokevirtual 64, 3) := by decide +kernel
theorem dX2_changeAtHome_90 : decode cX2_changeAtHome 90 = .ok (.iadd, 1) := by decide +kernel
theorem dX2_changeAtHome_91 : decode cX2_changeAtHome 91 = .ok (.istore 8, 2) := by decide +kernel
theorem dX2_changeAtHome_93 : decode cX2_changeAtHome 93 = .ok (.aload 5, 2) := by decide +kernel
theorem dX2_changeAtHome_95 : decode cX2_changeAtHome 95 = .ok (.iload 6, 2) := by decide +kernel
theorem dX2_changeAtHome_97 : decode cX2_changeAtHome 97 = .ok (.iconst 2, 1) := by decide +kernel
theorem dX2_changeAtHome_98 : decode cX2_changeAtHome 98 = .ok (.iconst (-1), 1) := by decide +kernel
theorem dX2_changeAtHome_99 : decode cX2_changeAtHome 99 = .ok (.iconst (-1), 1) := by decide +kernel
theorem dX2_changeAtHome_100 : decode cX2_changeAtHome 100 = .ok (.iload 8, 2) := by decide +kernel
theorem dX2_changeAtHome_102 : decode cX2_changeAtHome 102 = .ok (.invokevirtual 85, 3) := by decide +kernel
theorem dX2_changeAtHome_105 : decode cX2_changeAtHome 105 = .ok (.iconst 1, 1) := by decide +kernel
theorem dX2_changeAtHome_106 : decode cX2_changeAtHome 106 = .ok (.ireturn, 1) := by decide +kernel
theorem dX2_changeAway_0 : decode cX2_changeAway 0 = .ok (.aload_n 0, 1) := by decide +kernel
theorem dX2_changeAway_1 : decode cX2_changeAway 1 = .ok (.getfield 11, 3) := by decide +kernel
theorem dX2_changeAway_4 : decode cX2_changeAway 4 = .ok (.iload_n 1, 1) := by decide +kernel
theorem dX2_changeAway_5 : decode cX2_changeAway 5 = .ok (.bipush 32, 2) := by decide +kernel
theorem dX2_changeAway_7 : decode cX2_changeAway 7 = .ok (.idiv, 1) := by decide +kernel
theorem dX2_changeAway_8 : decode cX2_changeAway 8 = .ok (.aaload, 1) := by decide +kernel
theorem dX2_changeAway_9 : decode cX2_changeAway 9 = .ok (.astore 5, 2) := by decide +kernel
theorem dX2_changeAway_11 : decode cX2_changeAway 11 = .ok (.iload_n 1, 1) := by decide +kernel
theorem dX2_changeAway_12 : decode cX2_changeAway 12 = .ok (.bipush 32, 2) := by decide +kernel
theorem dX2_changeAway_14 : decode cX2_changeAway 14 = .ok (.irem, 1) := by decide +kernel
theorem dX2_changeAway_15 : decode cX2_changeAway 15 = .ok (.istore 6, 2) := by decide +kernel
theorem dX2_changeAway_17 : decode cX2_changeAway 17 = .ok (.aload 5, 2) := by decide +kernel
theorem dX2_changeAway_19 : decode cX2_changeAway 19 = .ok (.getfield 34, 3) := by decide +kernel
theorem dX2_changeAway_22 : decode cX2_changeAway 22 = .ok (.iload 6, 2) := by decide +kernel
theorem dX2_changeAway_24 : decode cX2_changeAway 24 = .ok (.iaload, 1) := by decide +kernel
theorem dX2_changeAway_25 : decode cX2_changeAway 25 = .ok (.istore 7, 2) := by decide +kernel
theorem dX2_changeAway_27 : decode cX2_changeAway 27 = .ok (.aload_n 0, 1) := by decide +kernel
theorem dX2_changeAway_28 : decode cX2_changeAway 28 = .ok (.getfield 11, 3) := by decide +kernel
theorem dX2_changeAway_31 : decode cX2_changeAway 31 = .ok (.iload 7, 2) := by decide +kernel
theorem dX2_changeAway_33 : decode cX2_changeAway 33 = .ok (.bipush 32, 2) := by decide +kernel
theorem dX2_changeAway_35 : decode cX2_changeAway 35 = .ok (.idiv, 1) := by decide +kernel
theorem dX2_changeAway_36 : decode cX2_changeAway 36 = .ok (.aaload, 1) := by decide +kernel
theorem dX2_changeAway_37 : decode cX2_changeAway 37 = .ok (.astore 8, 2) := by decide +kernel
theorem dX2_changeAway_39 : decode cX2_changeAway 39 = .ok (.iload 7, 2) := by decide +kernel
theorem dX2_changeAway_41 : decode cX2_changeAway 41 = .ok (.bipush 32, 2) := by decide +kernel
theorem dX2_changeAway_43 : decode cX2_changeAway 43 = .ok (.irem, 1) := by decide +kernel
theorem dX2_changeAway_44 : decode cX2_changeAway 44 = .ok (.istore 9, 2) := by decide +kernel
theorem dX2_changeAway_46 : decode cX2_changeAway 46 = .ok (.aload 5, 2) := by decide +kernel
theorem dX2_changeAway_48 : decode cX2_changeAway 48 = .ok (.iload 6, 2) := by decide +kernel
theorem dX2_changeAway_50 : decode cX2_changeAway 50 = .ok (.iconst 1, 1) := by decide +kernel
theorem dX2_changeAway_51 : decode cX2_changeAway 51 = .ok (.iload_n 2, 1) := by decide +kernel
theorem dX2_changeAway_52 : decode cX2_changeAway 52 = .ok (.invokestatic 52, 3) := by decide +kernel
theorem dX2_changeAway_55 : decode cX2_changeAway 55 = .ok (.invokevirtual 81, 3) := by decide +kernel
theorem dX2_changeAway_58 : decode cX2_changeAway 58 = .ok (.ifCond .eq 24, 3) := by decide +kernel
theorem dX2_changeAway_61 : decode cX2_changeAway 61 = .ok (.aload 5, 2) := by decide +kernel
theorem dX2_changeAway_63 : decode cX2_changeAway 63 = .ok (.iload 6, 2) := by decide +kernel
theorem dX2_changeAway_65 : decode cX2_changeAway 65 = .ok (.iconst 1, 1) := by decide +kernel
theorem dX2_changeAway_66 : decode cX2_changeAway 66 = .ok (.iload_n 2, 1) := by decide +kernel
theorem dX2_changeAway_67 : decode cX2_changeAway 67 = .ok (.iload_n 3, 1) := by decide +kernel
theorem dX2_changeAway_68 : decode cX2_changeAway 68 = .ok (.iload 4, 2) := by decide +kernel
theorem dX2_changeAway_70 : decode cX2_changeAway 70 = .ok (.invokevirtual 85, 3) := by decide +kernel
theorem dX2_changeAway_73 : decode cX2_changeAway 73 = .ok (.aload 8, 2) := by decide +kernel
theorem dX2_changeAway_75 : decode cX2_changeAway 75 = .ok (.iload 9, 2) := by decide +kernel
theorem dX2_changeAway_77 : decode cX2_changeAway 77 = .ok (.invokevirtual 78, 3) := by decide +kernel
theorem dX2_changeAway_80 : decode cX2_changeAway 80 = .ok (.iconst 1, 1) := by decide +kernel
theorem dX2_changeAway_81 : decode cX2_changeAway 81 = .ok (.ireturn, 1) := by decide +kernel
theorem dX2_changeAway_82 : decode cX2_changeAway 82 = .ok (.aload 8, 2) := by decide +kernel
theorem dX2_changeAway_84 : decode cX2_changeAway 84 = .ok (.iload 9, 2) := by decide +kernel
theorem dX2_changeAway_86 : decode cX2_changeAway 86 = .ok (.iconst 3, 1) := by decide +kernel
theorem dX2_changeAway_87 : decode cX2_changeAway 87 = .ok (.iload_n 2, 1) := by decide +kernel
theorem dX2_changeAway_88 : decode cX2_changeAway 88 = .ok (.invokestatic 52, 3) := by decide +kernel
theorem dX2_changeAway_91 : decode cX2_changeAway 91 = .ok (.invokevirtual 81, 3) := by decide +kernel
theorem dX2_changeAway_94 : decode cX2_changeAway 94 = .ok (.ifCond .eq 17, 3) := by decide +kernel
theorem dX2_changeAway_97 : decode cX2_changeAway 97 = .ok (.aload 8, 2) := by decide +kernel
theorem dX2_changeAway_99 : decode cX2_changeAway 99 = .ok (.iload 9, 2) := by decide +kernel
theorem dX2_changeAway_101 : decode cX2_changeAway 101 = .ok (.iconst 3, 1) := by decide +kernel
theorem dX2_changeAway_102 : decode cX2_changeAway 102 = .ok (.iload_n 2, 1) := by decide +kernel
theorem dX2_changeAway_103 : decode cX2_changeAway 103 = .ok (.iload_n 3, 1) := by decide +kernel
theorem dX2_changeAway_104 : decode cX2_changeAway 104 = .ok (.iload 4, 2) := by decide +kernel
theorem dX2_changeAway_106 : decode cX2_changeAway 106 = .ok (.invokevirtual 85, 3) := by decide +kernel
theorem dX2_changeAway_109 : decode cX2_changeAway 109 = .ok (.iconst 1, 1) := by decide +kernel
theorem dX2_changeAway_110 : decode cX2_changeAway 110 = .ok (.ireturn, 1) := by decide +kernel
theorem dX2_changeAway_111 : decode cX2_changeAway 111 = .ok (.aload_n 0, 1) := by decide +kernel
theorem dX2_changeAway_112 : decode cX2_changeAway 112 = .ok (.iconst 3, 1) := by decide +kernel
theorem dX2_changeAway_113 : decode cX2_changeAway 113 = .ok (.iload_n 2, 1) := by decide +kernel
theorem dX2_changeAway_114 : decode cX2_changeAway 114 = .ok (.invokestatic 52, 3) := by decide +kernel
theorem dX2_changeAway_117 : decode cX2_changeAway 117 = .ok (.iload_n 1, 1) := by decide +kernel
theorem dX2_changeAway_118 : decode cX2_changeAway 118 = .ok (.bipush 32, 2) := by decide +kernel
theorem dX2_changeAway_120 : decode cX2_changeAway 120 = .ok (.idiv, 1) := by decide +kernel
theorem dX2_changeAway_121 : decode cX2_changeAway 121 = .ok (.iload 7, 2) := by decide +kernel
theorem dX2_changeAway_123 : decode cX2_changeAway 123 = .ok (.bipush 32, 2) := by decide +kernel
theorem dX2_changeAway_125 : decode cX2_changeAway 125 = .ok (.idiv, 1) := by decide +kernel
theorem dX2_changeAway_126 : decode cX2_changeAway 126 = .ok (.invokevirtual 56, 3) := by decide +kernel
theorem dX2_changeAway_129 : decode cX2_changeAway 129 = .ok (.istore 10, 2) := by decide +kernel
theorem dX2_changeAway_131 : decode cX2_changeAway 131 = .ok (.iload 10, 2) := by decide +kernel
theorem dX2_changeAway_133 : decode cX2_changeAway 133 = .ok (.iconst (-1), 1) := by decide +kernel
theorem dX2_changeAway_134 : decode cX2_changeAway 134 = .ok (.if_icmp .ne 5, 3) := by decide +kernel
theorem dX2_changeAway_137 : decode cX2_changeAway 137 = .ok (.iconst 0, 1) := by decide +kernel
theorem dX2_changeAway_138 : decode cX2_changeAway 138 = .ok (.ireturn, 1) := by decide +kernel
theorem dX2_changeAway_139 : decode cX2_changeAway 139 = .ok (.iload 10, 2) := by decide +kernel
theorem dX2_changeAway_141 : decode cX2_changeAway 141 = .ok (.bipush 32, 2) := by decide +kernel
theorem dX2_changeAway_143 : decode cX2_changeAway 143 = .ok (.imul, 1) := by decide +kernel
theorem dX2_changeAway_144 : decode cX2_changeAway 144 = .ok (.aload_n 0, 1) := by decide +kernel
theorem dX2_changeAway_145 : decode cX2_changeAway 145 = .ok (.getfield 11, 3) := by decide +kernel
theorem dX2_changeAway_148 : decode cX2_changeAway 148 = .ok (.iload 10, 2) := by decide +kernel
theorem dX2_changeAway_150 : decode cX2_changeAway 150 = .ok (.aaload, 1) := by decide +kernel
theorem dX2_changeAway_151 : decode cX2_changeAway 151 = .ok (.iconst 3, 1) := by decide +kernel
theorem dX2_changeAway_152 : decode cX2_changeAway 152 = .ok (.iload_n 2, 1) := by decide +kernel
theorem dX2_changeAway_153 : decode cX2_changeAway 153 = .ok (.iload_n 3, 1) := by decide +kernel
theorem dX2_changeAway_154 : decode cX2_changeAway 154 = .ok (.iload 4, 2) := by decide +kernel
theorem dX2_changeAway_156 : decode cX2_changeAway 156 = .ok (.invokevirtual 64, 3) := by decide +kernel
theorem dX2_changeAway_159 : decode cX2_changeAway 159 = .ok (.iadd, 1) := by decide +kernel
theorem dX2_changeAway_160 : decode cX2_changeAway 160 = .ok (.istore 11, 2) := by decide +kernel
theorem dX2_changeAway_162 : decode cX2_changeAway 162 = .ok (.aload 8, 2) := by decide +kernel
theorem dX2_changeAway_164 : decode cX2_changeAway 164 = .ok (.iload 9, 2) := by decide +kernel
theorem dX2_changeAway_166 : decode cX2_changeAway 166 = .ok (.invokevirtual 78, 3) := by decide +kernel
theorem dX2_changeAway_169 : decode cX2_changeAway 169 = .ok (.aload 5, 2) := by decide +kernel
theorem dX2_changeAway_171 : decode cX2_changeAway 171 = .ok (.iload 6, 2) := by decide +kernel
theorem dX2_changeAway_173 : decode cX2_changeAway 173 = .ok (.iconst 2, 1) := by decide +kernel
theorem dX2_changeAway_174 : decode cX2_changeAway 174 = .ok (.iconst (-1), 1) := by decide +kernel
theorem dX2_changeAway_175 : decode cX2_changeAway 175 = .ok (.iconst (-1), 1) := by decide +kernel
theorem dX2_changeAway_176 : decode cX2_changeAway 176 = .ok (.iload 11, 2) := by decide +kernel
theorem dX2_changeAway_178 : decode cX2_changeAway 178 = .ok (.invokevirtual 85, 3) := by decide +kernel
theorem dX2_changeAway_181 : decode cX2_changeAway 181 = .ok (.iconst 1, 1) := by decide +kernel
theorem dX2_changeAway_182 : decode cX2_changeAway 182 = .ok (.ireturn, 1) := by decide +kernel
theorem dX2_placeFor_0 : decode cX2_placeFor 0 = .ok (.iload_n 1, 1) := by decide +kernel
theorem dX2_placeFor_1 : decode cX2_placeFor 1 = .ok (.iconst 4, 1) := by decide +kernel
theorem dX2_placeFor_2 : decode cX2_placeFor 2 = .ok (.iadd, 1) := by decide +kernel
theorem dX2_placeFor_3 : decode cX2_placeFor 3 = .ok (.istore 4, 2) := by decide +kernel
theorem dX2_placeFor_5 : decode cX2_placeFor 5 = .ok (.aload_n 0, 1) := by decide +kernel
theorem dX2_placeFor_6 : decode cX2_placeFor 6 = .ok (.iload 4, 2) := by decide +kernel
theorem dX2_placeFor_8 : decode cX2_placeFor 8 = .ok (.iload_n 2, 1) := by decide +kernel
theorem dX2_placeFor_9 : decode cX2_placeFor 9 = .ok (.iload_n 3, 1) := by decide +kernel
theorem dX2_placeFor_10 : decode cX2_placeFor 10 = .ok (.invokevirtual 89, 3) := by decide +kernel
theorem dX2_placeFor_13 : decode cX2_placeFor 13 = .ok (.istore 5, 2) := by decide +kernel
theorem dX2_placeFor_15 : decode cX2_placeFor 15 = .ok (.iload 5, 2) := by decide +kernel
theorem dX2_placeFor_17 : decode cX2_placeFor 17 = .ok (.iconst (-1), 1) := by decide +kernel
theorem dX2_placeFor_18 : decode cX2_placeFor 18 = .ok (.if_icmp .ne 13, 3) := by decide +kernel
theorem dX2_placeFor_21 : decode cX2_placeFor 21 = .ok (.aload_n 0, 1) := by decide +kernel
theorem dX2_placeFor_22 : decode cX2_placeFor 22 = .ok (.iload 4, 2) := by decide +kernel
theorem dX2_placeFor_24 : decode cX2_placeFor 24 = .ok (.iload_n 2, 1) := by decide +kernel
theorem dX2_placeFor_25 : decode cX2_placeFor 25 = .ok (.iload_n 3, 1) := by decide +kernel
theorem dX2_placeFor_26 : decode cX2_placeFor 26 = .ok (.invokevirtual 92, 3) := by decide +kernel
theorem dX2_placeFor_29 : decode cX2_placeFor 29 = .ok (.istore 5, 2) := by decide +kernel
theorem dX2_placeFor_31 : decode cX2_placeFor 31 = .ok (.iload 5, 2) := by decide +kernel
theorem dX2_placeFor_33 : decode cX2_placeFor 33 = .ok (.iconst (-1), 1) := by decide +kernel
theorem dX2_placeFor_34 : decode cX2_placeFor 34 = .ok (.if_icmp .ne 11, 3) := by decide +kernel
theorem dX2_placeFor_37 : decode cX2_placeFor 37 = .ok (.aload_n 0, 1) := by decide +kernel
theorem dX2_placeFor_38 : decode cX2_placeFor 38 = .ok (.iconst 0, 1) := by decide +kernel
theorem dX2_placeFor_39 : decode cX2_placeFor 39 = .ok (.invokevirtual 95, 3) := by decide +kernel
theorem dX2_placeFor_42 : decode cX2_placeFor 42 = .ok (.goto 5, 3) := by decide +kernel
theorem dX2_placeFor_45 : decode cX2_placeFor 45 = .ok (.iload 5, 2) := by decide +kernel
theorem dX2_placeFor_47 : decode cX2_placeFor 47 = .ok (.ireturn, 1) := by decide +kernel
theorem dX2_leastClassPage_0 : decode cX2_leastClassPage 0 = .ok (.iconst (-1), 1) := by decide +kernel
theorem dX2_leastClassPage_1 : decode cX2_leastClassPage 1 = .ok (.istore 4, 2) := by decide +kernel
theorem dX2_leastClassPage_3 : decode cX2_leastClassPage 3 = .ok (.bipush 9, 2) := by decide +kernel
theorem dX2_leastClassPage_5 : decode cX2_leastClassPage 5 = .ok (.istore 5, 2) := by decide +kernel
theorem dX2_leastClassPage_7 : decode cX2_leastClassPage 7 = .ok (.iconst 0, 1) := by decide +kernel
theorem dX2_leastClassPage_8 : decode cX2_leastClassPage 8 = .ok (.istore 6, 2) := by decide +kernel
theorem dX2_leastClassPage_10 : decode cX2_leastClassPage 10 = .ok (.iload 6, 2) := by decide +kernel
theorem dX2_leastClassPage_12 : decode cX2_leastClassPage 12 = .ok (.bipush 96, 2) := by decide +kernel
theorem dX2_leastClassPage_14 : decode cX2_leastClassPage 14 = .ok (.if_icmp .ge 76, 3) := by decide +kernel
theorem dX2_leastClassPage_17 : decode cX2_leastClassPage 17 = .ok (.iload 6, 2) := by decide +kernel
theorem dX2_leastClassPage_19 : decode cX2_leastClassPage 19 = .ok (.iload_n 2, 1) := by decide +kernel
theorem dX2_leastClassPage_20 : decode cX2_leastClassPage 20 = .ok (.if_icmp .eq 64, 3) := by decide +kernel
theorem dX2_leastClassPage_23 : decode cX2_leastClassPage 23 = .ok (.iload 6, 2) := by decide +kernel
theorem dX2_leastClassPage_25 : decode cX2_leastClassPage 25 = .ok (.iload_n 3, 1) := by decide +kernel
theorem dX2_leastClassPage_26 : decode cX2_leastClassPage 26 = .ok (.if_icmp .eq 58, 3) := by decide +kernel
theorem dX2_leastClassPage_29 : decode cX2_leastClassPage 29 = .ok (.aload_n 0, 1) := by decide +kernel
theorem dX2_leastClassPage_30 : decode cX2_leastClassPage 30 = .ok (.getfield 11, 3) := by decide +kernel
theorem dX2_leastClassPage_33 : decode cX2_leastClassPage 33 = .ok (.iload 6, 2) := by decide +kernel
theorem dX2_leastClassPage_35 : decode cX2_leastClassPage 35 = .ok (.aaload, 1) := by decide +kernel
theorem dX2_leastClassPage_36 : decode cX2_leastClassPage 36 = .ok (.invokevirtual 98, 3) := by decide +kernel
theorem dX2_leastClassPage_39 : decode cX2_leastClassPage 39 = .ok (.ifCond .ne 6, 3) := by decide +kernel
theorem dX2_leastClassPage_42 : decode cX2_leastClassPage 42 = .ok (.goto 42, 3) := by decide +kernel
theorem dX2_leastClassPage_45 : decode cX2_leastClassPage 45 = .ok (.aload_n 0, 1) := by decide +kernel
theorem dX2_leastClassPage_46 : decode cX2_leastClassPage 46 = .ok (.getfield 11, 3) := by decide +kernel
theorem dX2_leastClassPage_49 : decode cX2_leastClassPage 49 = .ok (.iload 6, 2) := by decide +kernel
theorem dX2_leastClassPage_51 : decode cX2_leastClassPage 51 = .ok (.aaload, 1) := by decide +kernel
theorem dX2_leastClassPage_52 : decode cX2_leastClassPage 52 = .ok (.invokevirtual 102, 3) := by decide +kernel
theorem dX2_leastClassPage_55 : decode cX2_leastClassPage 55 = .ok (.bipush 31, 2) := by decide +kernel
theorem dX2_leastClassPage_57 : decode cX2_leastClassPage 57 = .ok (.idiv, 1) := by decide +kernel
theorem dX2_leastClassPage_58 : decode cX2_leastClassPage 58 = .ok (.istore 7, 2) := by decide +kernel
theorem dX2_leastClassPage_60 : decode cX2_leastClassPage 60 = .ok (.iload 7, 2) := by decide +kernel
theorem dX2_leastClassPage_62 : decode cX2_leastClassPage 62 = .ok (.bipush 31, 2) := by decide +kernel
theorem dX2_leastClassPage_64 : decode cX2_leastClassPage 64 = .ok (.imul, 1) := by decide +kernel
theorem dX2_leastClassPage_65 : decode cX2_leastClassPage 65 = .ok (.iload_n 1, 1) := by decide +kernel
theorem dX2_leastClassPage_66 : decode cX2_leastClassPage 66 = .ok (.if_icmp .lt 18, 3) := by decide +kernel
theorem dX2_leastClassPage_69 : decode cX2_leastClassPage 69 = .ok (.iload 7, 2) := by decide +kernel
theorem dX2_leastClassPage_71 : decode cX2_leastClassPage 71 = .ok (.iload 5, 2) := by decide +kernel
theorem dX2_leastClassPage_73 : decode cX2_leastClassPage 73 = .ok (.if_icmp .ge 11, 3) := by decide +kernel
theorem dX2_leastClassPage_76 : decode cX2_leastClassPage 76 = .ok (.iload 6, 2) := by decide +kernel
theorem dX2_leastClassPage_78 : decode cX2_leastClassPage 78 = .ok (.istore 4, 2) := by decide +kernel
theorem dX2_leastClassPage_80 : decode cX2_leastClassPage 80 = .ok (.iload 7, 2) := by decide +kernel
theorem dX2_leastClassPage_82 : decode cX2_leastClassPage 82 = .ok (.istore 5, 2) := by decide +kernel
theorem dX2_leastClassPage_84 : decode cX2_leastClassPage 84 = .ok (.iinc 6 1, 3) := by decide +kernel
theorem dX2_leastClassPage_87 : decode cX2_leastClassPage 87 = .ok (.goto (-77), 3) := by decide +kernel
theorem dX2_leastClassPage_90 : decode cX2_leastClassPage 90 = .ok (.iload 4, 2) := by decide +kernel
theorem dX2_leastClassPage_92 : decode cX2_leastClassPage 92 = .ok (.ireturn, 1) := by decide +kernel
theorem dX2_firstPageWithRoom_0 : decode cX2_firstPageWithRoom 0 = .ok (.iconst 0, 1) := by decide +kernel
theorem dX2_firstPageWithRoom_1 : decode cX2_firstPageWithRoom 1 = .ok (.istore 4, 2) := by decide +kernel
theorem dX2_firstPageWithRoom_3 : decode cX2_firstPageWithRoom 3 = .ok (.iload 4, 2) := by decide +kernel
theorem dX2_firstPageWithRoom_5 : decode cX2_firstPageWithRoom 5 = .ok (.bipush 96, 2) := by decide +kernel
theorem dX2_firstPageWithRoom_7 : decode cX2_firstPageWithRoom 7 = .ok (.if_icmp .ge 51, 3) := by decide +kernel
theorem dX2_firstPageWithRoom_10 : decode cX2_firstPageWithRoom 10 = .ok (.iload 4, 2) := by decide +kernel
theorem dX2_firstPageWithRoom_12 : decode cX2_firstPageWithRoom 12 = .ok (.iload_n 2, 1) := by decide +kernel
theorem dX2_firstPageWithRoom_13 : decode cX2_firstPageWithRoom 13 = .ok (.if_icmp .eq 39, 3) := by decide +kernel
theorem dX2_firstPageWithRoom_16 : decode cX2_firstPageWithRoom 16 = .ok (.iload 4, 2) := by decide +kernel
theorem dX2_firstPageWithRoom_18 : decode cX2_firstPageWithRoom 18 = .ok (.iload_n 3, 1) := by decide +kernel
theorem dX2_firstPageWithRoom_19 : decode cX2_firstPageWithRoom 19 = .ok (.if_icmp .eq 33, 3) := by decide +kernel
theorem dX2_firstPageWithRoom_22 : decode cX2_firstPageWithRoom 22 = .ok (.aload_n 0, 1) := by decide +kernel
theorem dX2_firstPageWithRoom_23 : decode cX2_firstPageWithRoom 23 = .ok (.getfield 11, 3) := by decide +kernel
theorem dX2_firstPageWithRoom_26 : decode cX2_firstPageWithRoom 26 = .ok (.iload 4, 2) := by decide +kernel
theorem dX2_firstPageWithRoom_28 : decode cX2_firstPageWithRoom 28 = .ok (.aaload, 1) := by decide +kernel
theorem dX2_firstPageWithRoom_29 : decode cX2_firstPageWithRoom 29 = .ok (.invokevirtual 98, 3) := by decide +kernel
theorem dX2_firstPageWithRoom_32 : decode cX2_firstPageWithRoom 32 = .ok (.ifCond .eq 20, 3) := by decide +kernel
theorem dX2_firstPageWithRoom_35 : decode cX2_firstPageWithRoom 35 = .ok (.aload_n 0, 1) := by decide +kernel
theorem dX2_firstPageWithRoom_36 : decode cX2_firstPageWithRoom 36 = .ok (.getfield 11, 3) := by decide +kernel
theorem dX2_firstPageWithRoom_39 : decode cX2_firstPageWithRoom 39 = .ok (.iload 4, 2) := by decide +kernel
theorem dX2_firstPageWithRoom_41 : decode cX2_firstPageWithRoom 41 = .ok (.aaload, 1) := by decide +kernel
theorem dX2_firstPageWithRoom_42 : decode cX2_firstPageWithRoom 42 = .ok (.invokevirtual 102, 3) := by decide +kernel
theorem dX2_firstPageWithRoom_45 : decode cX2_firstPageWithRoom 45 = .ok (.iload_n 1, 1) := by decide +kernel
theorem dX2_firstPageWithRoom_46 : decode cX2_firstPageWithRoom 46 = .ok (.if_icmp .lt 6, 3) := by decide +kernel
theorem dX2_firstPageWithRoom_49 : decode cX2_firstPageWithRoom 49 = .ok (.iload 4, 2) := by decide +kernel
theorem dX2_firstPageWithRoom_51 : decode cX2_firstPageWithRoom 51 = .ok (.ireturn, 1) := by decide +kernel
theorem dX2_firstPageWithRoom_52 : decode cX2_firstPageWithRoom 52 = .ok (.iinc 4 1, 3) := by decide +kernel
theorem dX2_firstPageWithRoom_55 : decode cX2_firstPageWithRoom 55 = .ok (.goto (-52), 3) := by decide +kernel
theorem dX2_firstPageWithRoom_58 : decode cX2_firstPageWithRoom 58 = .ok (.iconst (-1), 1) := by decide +kernel
theorem dX2_firstPageWithRoom_59 : decode cX2_firstPageWithRoom 59 = .ok (.ireturn, 1) := by decide +kernel
theorem dX2_leastFreePage_0 : decode cX2_leastFreePage 0 = .ok (.iload_n 1, 1) := by decide +kernel
theorem dX2_leastFreePage_1 : decode cX2_leastFreePage 1 = .ok (.istore_n 2, 1) := by decide +kernel
theorem dX2_leastFreePage_2 : decode cX2_leastFreePage 2 = .ok (.iload_n 2, 1) := by decide +kernel
theorem dX2_leastFreePage_3 : decode cX2_leastFreePage 3 = .ok (.bipush 96, 2) := by decide +kernel
theorem dX2_leastFreePage_5 : decode cX2_leastFreePage 5 = .ok (.if_icmp .ge 23, 3) := by decide +kernel
theorem dX2_leastFreePage_8 : decode cX2_leastFreePage 8 = .ok (.aload_n 0, 1) := by decide +kernel
theorem dX2_leastFreePage_9 : decode cX2_leastFreePage 9 = .ok (.getfield 11, 3) := by decide +kernel
theorem dX2_leastFreePage_12 : decode cX2_leastFreePage 12 = .ok (.iload_n 2, 1) := by decide +kernel
theorem dX2_leastFreePage_13 : decode cX2_leastFreePage 13 = .ok (.aaload, 1) := by decide +kernel
theorem dX2_leastFreePage_14 : decode cX2_leastFreePage 14 = .ok (.getfield 106, 3) := by decide +kernel
theorem dX2_leastFreePage_17 : decode cX2_leastFreePage 17 = .ok (.ifCond .ne 5, 3) := by decide +kernel
theorem dX2_leastFreePage_20 : decode cX2_leastFreePage 20 = .ok (.iload_n 2, 1) := by decide +kernel
theorem dX2_leastFreePage_21 : decode cX2_leastFreePage 21 = .ok (.ireturn, 1) := by decide +kernel
theorem dX2_leastFreePage_22 : decode cX2_leastFreePage 22 = .ok (.iinc 2 1, 3) := by decide +kernel
theorem dX2_leastFreePage_25 : decode cX2_leastFreePage 25 = .ok (.goto (-23), 3) := by decide +kernel
theorem dX2_leastFreePage_28 : decode cX2_leastFreePage 28 = .ok (.iconst (-1), 1) := by decide +kernel
theorem dX2_leastFreePage_29 : decode cX2_leastFreePage 29 = .ok (.ireturn, 1) := by decide +kernel
theorem dX2_hasPagesForChain_0 : decode cX2_hasPagesForChain 0 = .ok (.iload_n 1, 1) := by decide +kernel
theorem dX2_hasPagesForChain_1 : decode cX2_hasPagesForChain 1 = .ok (.invokestatic 110, 3) := by decide +kernel
theorem dX2_hasPagesForChain_4 : decode cX2_hasPagesForChain 4 = .ok (.aload_n 0, 1) := by decide +kernel
theorem dX2_hasPagesForChain_5 : decode cX2_hasPagesForChain 5 = .ok (.iconst 0, 1) := by decide +kernel
theorem dX2_hasPagesForChain_6 : decode cX2_hasPagesForChain 6 = .ok (.invokevirtual 113, 3) := by decide +kernel
theorem dX2_hasPagesForChain_9 : decode cX2_hasPagesForChain 9 = .ok (.if_icmp .gt 7, 3) := by decide +kernel
theorem dX2_hasPagesForChain_12 : decode cX2_hasPagesForChain 12 = .ok (.iconst 1, 1) := by decide +kernel
theorem dX2_hasPagesForChain_13 : decode cX2_hasPagesForChain 13 = .ok (.goto 4, 3) := by decide +kernel
theorem dX2_hasPagesForChain_16 : decode cX2_hasPagesForChain 16 = .ok (.iconst 0, 1) := by decide +kernel
theorem dX2_hasPagesForChain_17 : decode cX2_hasPagesForChain 17 = .ok (.ireturn, 1) := by decide +kernel
theorem dX2_takeChain_0 : decode cX2_takeChain 0 = .ok (.iload_n 1, 1) := by decide +kernel
theorem dX2_takeChain_1 : decode cX2_takeChain 1 = .ok (.invokestatic 110, 3) := by decide +kernel
theorem dX2_takeChain_4 : decode cX2_takeChain 4 = .ok (.istore_n 2, 1) := by decide +kernel
theorem dX2_takeChain_5 : decode cX2_takeChain 5 = .ok (.iconst (-1), 1) := by decide +kernel
theorem dX2_takeChain_6 : decode cX2_takeChain 6 = .ok (.istore_n 3, 1) := by decide +kernel
theorem dX2_takeChain_7 : decode cX2_takeChain 7 = .ok (.iconst (-1), 1) := by decide +kernel
theorem dX2_takeChain_8 : decode cX2_takeChain 8 = .ok (.istore 4, 2) := by decide +kernel
theorem dX2_takeChain_10 : decode cX2_takeChain 10 = .ok (.iload_n 1, 1) := by decide +kernel
theorem dX2_takeChain_11 : decode cX2_takeChain 11 = .ok (.istore 5, 2) := by decide +kernel
theorem dX2_takeChain_13 : decode cX2_takeChain 13 = .ok (.iconst 0, 1) := by decide +kernel
theorem dX2_takeChain_14 : decode cX2_takeChain 14 = .ok (.istore 6, 2) := by decide +kernel
theorem dX2_takeChain_16 : decode cX2_takeChain 16 = .ok (.iload 6, 2) := by decide +kernel
theorem dX2_takeChain_18 : decode cX2_takeChain 18 = .ok (.iload_n 2, 1) := by decide +kernel
theorem dX2_takeChain_19 : decode cX2_takeChain 19 = .ok (.if_icmp .ge 80, 3) := by decide +kernel
theorem dX2_takeChain_22 : decode cX2_takeChain 22 = .ok (.aload_n 0, 1) := by decide +kernel
theorem dX2_takeChain_23 : decode cX2_takeChain 23 = .ok (.iload 4, 2) := by decide +kernel
theorem dX2_takeChain_25 : decode cX2_takeChain 25 = .ok (.iconst 1, 1) := by decide +kernel
theorem dX2_takeChain_26 : decode cX2_takeChain 26 = .ok (.iadd, 1) := by decide +kernel
theorem dX2_takeChain_27 : decode cX2_takeChain 27 = .ok (.invokevirtual 95, 3) := by decide +kernel
theorem dX2_takeChain_30 : decode cX2_takeChain 30 = .ok (.istore 7, 2) := by decide +kernel
theorem dX2_takeChain_32 : decode cX2_takeChain 32 = .ok (.iload 7, 2) := by decide +kernel
theorem dX2_takeChain_34 : decode cX2_takeChain 34 = .ok (.iconst (-1), 1) := by decide +kernel
theorem dX2_takeChain_35 : decode cX2_takeChain 35 = .ok (.if_icmp .ne 6, 3) := by decide +kernel
theorem dX2_takeChain_38 : decode cX2_takeChain 38 = .ok (.goto 61, 3) := by decide +kernel
theorem dX2_takeChain_41 : decode cX2_takeChain 41 = .ok (.aload_n 0, 1) := by decide +kernel
theorem dX2_takeChain_42 : decode cX2_takeChain 42 = .ok (.getfield 11, 3) := by decide +kernel
theorem dX2_takeChain_45 : decode cX2_takeChain 45 = .ok (.iload 7, 2) := by decide +kernel
theorem dX2_takeChain_47 : decode cX2_takeChain 47 = .ok (.aaload, 1) := by decide +kernel
theorem dX2_takeChain_48 : decode cX2_takeChain 48 = .ok (.iload 5, 2) := by decide +kernel
theorem dX2_takeChain_50 : decode cX2_takeChain 50 = .ok (.sipush 240, 3) := by decide +kernel
theorem dX2_takeChain_53 : decode cX2_takeChain 53 = .ok (.invokestatic 116, 3) := by decide +kernel
theorem dX2_takeChain_56 : decode cX2_takeChain 56 = .ok (.invokevirtual 121, 3) := by decide +kernel
theorem dX2_takeChain_59 : decode cX2_takeChain 59 = .ok (.iinc 5 (-240), 6) := by decide +kernel
theorem dX2_takeChain_65 : decode cX2_takeChain 65 = .ok (.iload 4, 2) := by decide +kernel
theorem dX2_takeChain_67 : decode cX2_takeChain 67 = .ok (.iconst (-1), 1) := by decide +kernel
theorem dX2_takeChain_68 : decode cX2_takeChain 68 = .ok (.if_icmp .ne 9, 3) := by decide +kernel
theorem dX2_takeChain_71 : decode cX2_takeChain 71 = .ok (.iload 7, 2) := by decide +kernel
theorem dX2_takeChain_73 : decode cX2_takeChain 73 = .ok (.istore_n 3, 1) := by decide +kernel
theorem dX2_takeChain_74 : decode cX2_takeChain 74 = .ok (.goto 15, 3) := by decide +kernel
theorem dX2_takeChain_77 : decode cX2_takeChain 77 = .ok (.aload_n 0, 1) := by decide +kernel
theorem dX2_takeChain_78 : decode cX2_takeChain 78 = .ok (.getfield 11, 3) := by decide +kernel
theorem dX2_takeChain_81 : decode cX2_takeChain 81 = .ok (.iload 4, 2) := by decide +kernel
theorem dX2_takeChain_83 : decode cX2_takeChain 83 = .ok (.aaload, 1) := by decide +kernel
theorem dX2_takeChain_84 : decode cX2_takeChain 84 = .ok (.iload 7, 2) := by decide +kernel
theorem dX2_takeChain_86 : decode cX2_takeChain 86 = .ok (.putfield 124, 3) := by decide +kernel
theorem dX2_takeChain_89 : decode cX2_takeChain 89 = .ok (.iload 7, 2) := by decide +kernel
theorem dX2_takeChain_91 : decode cX2_takeChain 91 = .ok (.istore 4, 2) := by decide +kernel
theorem dX2_takeChain_93 : decode cX2_takeChain 93 = .ok (.iinc 6 1, 3) := by decide +kernel
theorem dX2_takeChain_96 : decode cX2_takeChain 96 = .ok (.goto (-80), 3) := by decide +kernel
theorem dX2_takeChain_99 : decode cX2_takeChain 99 = .ok (.iload_n 3, 1) := by decide +kernel
theorem dX2_takeChain_100 : decode cX2_takeChain 100 = .ok (.ireturn, 1) := by decide +kernel
theorem dX2_freeChain_0 : decode cX2_freeChain 0 = .ok (.iload_n 1, 1) := by decide +kernel
theorem dX2_freeChain_1 : decode cX2_freeChain 1 = .ok (.istore_n 2, 1) := by decide +kernel
theorem dX2_freeChain_2 : decode cX2_freeChain 2 = .ok (.iconst 0, 1) := by decide +kernel
theorem dX2_freeChain_3 : decode cX2_freeChain 3 = .ok (.istore_n 3, 1) := by decide +kernel
theorem dX2_freeChain_4 : decode cX2_freeChain 4 = .ok (.iload_n 3, 1) := by decide +kernel
theorem dX2_freeChain_5 : decode cX2_freeChain 5 = .ok (.bipush 96, 2) := by decide +kernel
theorem dX2_freeChain_7 : decode cX2_freeChain 7 = .ok (.if_icmp .ge 37, 3) := by decide +kernel
theorem dX2_freeChain_10 : decode cX2_freeChain 10 = .ok (.iload_n 2, 1) := by decide +kernel
theorem dX2_freeChain_11 : decode cX2_freeChain 11 = .ok (.iconst (-1), 1) := by decide +kernel
theorem dX2_freeChain_12 : decode cX2_freeChain 12 = .ok (.if_icmp .eq 32, 3) := by decide +kernel
theorem dX2_freeChain_15 : decode cX2_freeChain 15 = .ok (.aload_n 0, 1) := by decide +kernel
theorem dX2_freeChain_16 : decode cX2_freeChain 16 = .ok (.getfield 11, 3) := by decide +kernel
theorem dX2_freeChain_19 : decode cX2_freeChain 19 = .ok (.iload_n 2, 1) := by decide +kernel
theorem dX2_freeChain_20 : decode cX2_freeChain 20 = .ok (.aaload, 1) := by decide +kernel
theorem dX2_freeChain_21 : decode cX2_freeChain 21 = .ok (.getfield 124, 3) := by decide +kernel
theorem dX2_freeChain_24 : decode cX2_freeChain 24 = .ok (.istore 4, 2) := by decide +kernel
theorem dX2_freeChain_26 : decode cX2_freeChain 26 = .ok (.aload_n 0, 1) := by decide +kernel
theorem dX2_freeChain_27 : decode cX2_freeChain 27 = .ok (.getfield 11, 3) := by decide +kernel
theorem dX2_freeChain_30 : decode cX2_freeChain 30 = .ok (.iload_n 2, 1) := by decide +kernel
theorem dX2_freeChain_31 : decode cX2_freeChain 31 = .ok (.aaload, 1) := by decide +kernel
theorem dX2_freeChain_32 : decode cX2_freeChain 32 = .ok (.invokevirtual 127, 3) := by decide +kernel
theorem dX2_freeChain_35 : decode cX2_freeChain 35 = .ok (.iload 4, 2) := by decide +kernel
theorem dX2_freeChain_37 : decode cX2_freeChain 37 = .ok (.istore_n 2, 1) := by decide +kernel
theorem dX2_freeChain_38 : decode cX2_freeChain 38 = .ok (.iinc 3 1, 3) := by decide +kernel
theorem dX2_freeChain_41 : decode cX2_freeChain 41 = .ok (.goto (-37), 3) := by decide +kernel
theorem dX2_freeChain_44 : decode cX2_freeChain 44 = .ok (.return_, 1) := by decide +kernel
theorem dX2_pagesThatAre_0 : decode cX2_pagesThatAre 0 = .ok (.iconst 0, 1) := by decide +kernel
theorem dX2_pagesThatAre_1 : decode cX2_pagesThatAre 1 = .ok (.istore_n 2, 1) := by decide +kernel
theorem dX2_pagesThatAre_2 : decode cX2_pagesThatAre 2 = .ok (.iconst 0, 1) := by decide +kernel
theorem dX2_pagesThatAre_3 : decode cX2_pagesThatAre 3 = .ok (.istore_n 3, 1) := by decide +kernel
theorem dX2_pagesThatAre_4 : decode cX2_pagesThatAre 4 = .ok (.iload_n 3, 1) := by decide +kernel
theorem dX2_pagesThatAre_5 : decode cX2_pagesThatAre 5 = .ok (.bipush 96, 2) := by decide +kernel
theorem dX2_pagesThatAre_7 : decode cX2_pagesThatAre 7 = .ok (.if_icmp .ge 25, 3) := by decide +kernel
theorem dX2_pagesThatAre_10 : decode cX2_pagesThatAre 10 = .ok (.aload_n 0, 1) := by decide +kernel
theorem dX2_pagesThatAre_11 : decode cX2_pagesThatAre 11 = .ok (.getfield 11, 3) := by decide +kernel
theorem dX2_pagesThatAre_14 : decode cX2_pagesThatAre 14 = .ok (.iload_n 3, 1) := by decide +kernel
theorem dX2_pagesThatAre_15 : decode cX2_pagesThatAre 15 = .ok (.aaload, 1) := by decide +kernel
theorem dX2_pagesThatAre_16 : decode cX2_pagesThatAre 16 = .ok (.getfield 106, 3) := by decide +kernel
theorem dX2_pagesThatAre_19 : decode cX2_pagesThatAre 19 = .ok (.iload_n 1, 1) := by decide +kernel
theorem dX2_pagesThatAre_20 : decode cX2_pagesThatAre 20 = .ok (.if_icmp .ne 6, 3) := by decide +kernel
theorem dX2_pagesThatAre_23 : decode cX2_pagesThatAre 23 = .ok (.iinc 2 1, 3) := by decide +kernel
theorem dX2_pagesThatAre_26 : decode cX2_pagesThatAre 26 = .ok (.iinc 3 1, 3) := by decide +kernel
theorem dX2_pagesThatAre_29 : decode cX2_pagesThatAre 29 = .ok (.goto (-25), 3) := by decide +kernel
theorem dX2_pagesThatAre_32 : decode cX2_pagesThatAre 32 = .ok (.iload_n 2, 1) := by decide +kernel
theorem dX2_pagesThatAre_33 : decode cX2_pagesThatAre 33 = .ok (.ireturn, 1) := by decide +kernel
theorem dX2_cellCount_0 : decode cX2_cellCount 0 = .ok (.iconst 0, 1) := by decide +kernel
theorem dX2_cellCount_1 : decode cX2_cellCount 1 = .ok (.istore_n 1, 1) := by decide +kernel
theorem dX2_cellCount_2 : decode cX2_cellCount 2 = .ok (.iconst 0, 1) := by decide +kernel
theorem dX2_cellCount_3 : decode cX2_cellCount 3 = .ok (.istore_n 2, 1) := by decide +kernel
theorem dX2_cellCount_4 : decode cX2_cellCount 4 = .ok (.iload_n 2, 1) := by decide +kernel
theorem dX2_cellCount_5 : decode cX2_cellCount 5 = .ok (.bipush 96, 2) := by decide +kernel
theorem dX2_cellCount_7 : decode cX2_cellCount 7 = .ok (.if_icmp .ge 21, 3) := by decide +kernel
theorem dX2_cellCount_10 : decode cX2_cellCount 10 = .ok (.iload_n 1, 1) := by decide +kernel
theorem dX2_cellCount_11 : decode cX2_cellCount 11 = .ok (.aload_n 0, 1) := by decide +kernel
theorem dX2_cellCount_12 : decode cX2_cellCount 12 = .ok (.getfield 11, 3) := by decide +kernel
theorem dX2_cellCount_15 : decode cX2_cellCount 15 = .ok (.iload_n 2, 1) := by decide +kernel
theorem dX2_cellCount_16 : decode cX2_cellCount 16 = .ok (.aaload, 1) := by decide +kernel
theorem dX2_cellCount_17 : decode cX2_cellCount 17 = .ok (.getfield 130, 3) := by decide +kernel
theorem dX2_cellCount_20 : decode cX2_cellCount 20 = .ok (.iadd, 1) := by decide +kernel
theorem dX2_cellCount_21 : decode cX2_cellCount 21 = .ok (.istore_n 1, 1) := by decide +kernel
theorem dX2_cellCount_22 : decode cX2_cellCount 22 = .ok (.iinc 2 1, 3) := by decide +kernel
theorem dX2_cellCount_25 : decode cX2_cellCount 25 = .ok (.goto (-21), 3) := by decide +kernel
theorem dX2_cellCount_28 : decode cX2_cellCount 28 = .ok (.iload_n 1, 1) := by decide +kernel
theorem dX2_cellCount_29 : decode cX2_cellCount 29 = .ok (.ireturn, 1) := by decide +kernel
theorem dX2_stubCount_0 : decode cX2_stubCount 0 = .ok (.iconst 0, 1) := by decide +kernel
theorem dX2_stubCount_1 : decode cX2_stubCount 1 = .ok (.istore_n 1, 1) := by decide +kernel
theorem dX2_stubCount_2 : decode cX2_stubCount 2 = .ok (.iconst 0, 1) := by decide +kernel
theorem dX2_stubCount_3 : decode cX2_stubCount 3 = .ok (.istore_n 2, 1) := by decide +kernel
theorem dX2_stubCount_4 : decode cX2_stubCount 4 = .ok (.iload_n 2, 1) := by decide +kernel
theorem dX2_stubCount_5 : decode cX2_stubCount 5 = .ok (.bipush 96, 2) := by decide +kernel
theorem dX2_stubCount_7 : decode cX2_stubCount 7 = .ok (.if_icmp .ge 21, 3) := by decide +kernel
theorem dX2_stubCount_10 : decode cX2_stubCount 10 = .ok (.iload_n 1, 1) := by decide +kernel
theorem dX2_stubCount_11 : decode cX2_stubCount 11 = .ok (.aload_n 0, 1) := by decide +kernel
theorem dX2_stubCount_12 : decode cX2_stubCount 12 = .ok (.getfield 11, 3) := by decide +kernel
theorem dX2_stubCount_15 : decode cX2_stubCount 15 = .ok (.iload_n 2, 1) := by decide +kernel
theorem dX2_stubCount_16 : decode cX2_stubCount 16 = .ok (.aaload, 1) := by decide +kernel
theorem dX2_stubCount_17 : decode cX2_stubCount 17 = .ok (.getfield 133, 3) := by decide +kernel
theorem dX2_stubCount_20 : decode cX2_stubCount 20 = .ok (.iadd, 1) := by decide +kernel
theorem dX2_stubCount_21 : decode cX2_stubCount 21 = .ok (.istore_n 1, 1) := by decide +kernel
theorem dX2_stubCount_22 : decode cX2_stubCount 22 = .ok (.iinc 2 1, 3) := by decide +kernel
theorem dX2_stubCount_25 : decode cX2_stubCount 25 = .ok (.goto (-21), 3) := by decide +kernel
theorem dX2_stubCount_28 : decode cX2_stubCount 28 = .ok (.iload_n 1, 1) := by decide +kernel
theorem dX2_stubCount_29 : decode cX2_stubCount 29 = .ok (.ireturn, 1) := by decide +kernel
theorem dX2_compactingCount_0 : decode cX2_compactingCount 0 = .ok (.iconst 0, 1) := by decide +kernel
theorem dX2_compactingCount_1 : decode cX2_compactingCount 1 = .ok (.istore_n 1, 1) := by decide +kernel
theorem dX2_compactingCount_2 : decode cX2_compactingCount 2 = .ok (.iconst 0, 1) := by decide +kernel
theorem dX2_compactingCount_3 : decode cX2_compactingCount 3 = .ok (.istore_n 2, 1) := by decide +kernel
theorem dX2_compactingCount_4 : decode cX2_compactingCount 4 = .ok (.iload_n 2, 1) := by decide +kernel
theorem dX2_compactingCount_5 : decode cX2_compactingCount 5 = .ok (.bipush 96, 2) := by decide +kernel
theorem dX2_compactingCount_7 : decode cX2_compactingCount 7 = .ok (.if_icmp .ge 21, 3) := by decide +kernel
theorem dX2_compactingCount_10 : decode cX2_compactingCount 10 = .ok (.iload_n 1, 1) := by decide +kernel
theorem dX2_compactingCount_11 : decode cX2_compactingCount 11 = .ok (.aload_n 0, 1) := by decide +kernel
theorem dX2_compactingCount_12 : decode cX2_compactingCount 12 = .ok (.getfield 11, 3) := by decide +kernel
theorem dX2_compactingCount_15 : decode cX2_compactingCount 15 = .ok (.iload_n 2, 1) := by decide +kernel
theorem dX2_compactingCount_16 : decode cX2_compactingCount 16 = .ok (.aaload, 1) := by decide +kernel
theorem dX2_compactingCount_17 : decode cX2_compactingCount 17 = .ok (.getfield 136, 3) := by decide +kernel
theorem dX2_compactingCount_20 : decode cX2_compactingCount 20 = .ok (.iadd, 1) := by decide +kernel
theorem dX2_compactingCount_21 : decode cX2_compactingCount 21 = .ok (.istore_n 1, 1) := by decide +kernel
theorem dX2_compactingCount_22 : decode cX2_compactingCount 22 = .ok (.iinc 2 1, 3) := by decide +kernel
theorem dX2_compactingCount_25 : decode cX2_compactingCount 25 = .ok (.goto (-21), 3) := by decide +kernel
theorem dX2_compactingCount_28 : decode cX2_compactingCount 28 = .ok (.iload_n 1, 1) := by decide +kernel
theorem dX2_compactingCount_29 : decode cX2_compactingCount 29 = .ok (.ireturn, 1) := by decide +kernel
theorem dX3_init_0 : decode cX3_init 0 = .ok (.aload_n 0, 1) := by decide +kernel
theorem dX3_init_1 : decode cX3_init 1 = .ok (.invokespecial 3, 3) := by decide +kernel
theorem dX3_init_4 : decode cX3_init 4 = .ok (.aload_n 0, 1) := by decide +kernel
theorem dX3_init_5 : decode cX3_init 5 = .ok (.new 9, 3) := by decide +kernel
theorem dX3_init_8 : decode cX3_init 8 = .ok (.dup, 1) := by decide +kernel
theorem dX3_init_9 : decode cX3_init 9 = .ok (.invokespecial 11, 3) := by decide +kernel
theorem dX3_init_12 : decode cX3_init 12 = .ok (.putfield 12, 3) := by decide +kernel
theorem dX3_init_15 : decode cX3_init 15 = .ok (.aload_n 0, 1) := by decide +kernel
theorem dX3_init_16 : decode cX3_init 16 = .ok (.new 9, 3) := by decide +kernel
theorem dX3_init_19 : decode cX3_init 19 = .ok (.dup, 1) := by decide +kernel
theorem dX3_init_20 : decode cX3_init 20 = .ok (.invokespecial 11, 3) := by decide +kernel
theorem dX3_init_23 : decode cX3_init 23 = .ok (.putfield 16, 3) := by decide +kernel
theorem dX3_init_26 : decode cX3_init 26 = .ok (.aload_n 0, 1) := by decide +kernel
theorem dX3_init_27 : decode cX3_init 27 = .ok (.new 19, 3) := by decide +kernel
theorem dX3_init_30 : decode cX3_init 30 = .ok (.dup, 1) := by decide +kernel
theorem dX3_init_31 : decode cX3_init 31 = .ok (.invokespecial 21, 3) := by decide +kernel
theorem dX3_init_34 : decode cX3_init 34 = .ok (.putfield 22, 3) := by decide +kernel
theorem dX3_init_37 : decode cX3_init 37 = .ok (.aload_n 0, 1) := by decide +kernel
theorem dX3_init_38 : decode cX3_init 38 = .ok (.iconst 0, 1) := by decide +kernel
theorem dX3_init_39 : decode cX3_init 39 = .ok (.putfield 26, 3) := by decide +kernel
theorem dX3_init_42 : decode cX3_init 42 = .ok (.return_, 1) := by decide +kernel
theorem dX3_insert_0 : decode cX3_insert 0 = .ok (.iload_n 1, 1) := by decide +kernel
theorem dX3_insert_1 : decode cX3_insert 1 = .ok (.iload_n 2, 1) := by decide +kernel
theorem dX3_insert_2 : decode cX3_insert 2 = .ok (.invokestatic 30, 3) := by decide +kernel
theorem dX3_insert_5 : decode cX3_insert 5 = .ok (.aload_n 0, 1) := by decide +kernel
theorem dX3_insert_6 : decode cX3_insert 6 = .ok (.getfield 12, 3) := by decide +kernel
theorem dX3_insert_9 : decode cX3_insert 9 = .ok (.iload_n 1, 1) := by decide +kernel
theorem dX3_insert_10 : decode cX3_insert 10 = .ok (.iload_n 2, 1) := by decide +kernel
theorem dX3_insert_11 : decode cX3_insert 11 = .ok (.invokevirtual 34, 3) := by decide +kernel
theorem dX3_insert_14 : decode cX3_insert 14 = .ok (.istore_n 3, 1) := by decide +kernel
theorem dX3_insert_15 : decode cX3_insert 15 = .ok (.iload_n 3, 1) := by decide +kernel
theorem dX3_insert_16 : decode cX3_insert 16 = .ok (.iconst (-1), 1) := by decide +kernel
theorem dX3_insert_17 : decode cX3_insert 17 = .ok (.if_icmp .eq 10, 3) := by decide +kernel
theorem dX3_insert_20 : decode cX3_insert 20 = .ok (.aload_n 0, 1) := by decide +kernel
theorem dX3_insert_21 : decode cX3_insert 21 = .ok (.iconst (-1), 1) := by decide +kernel
theorem dX3_insert_22 : decode cX3_insert 22 = .ok (.iload_n 1, 1) := by decide +kernel
theorem dX3_insert_23 : decode cX3_insert 23 = .ok (.iload_n 2, 1) := by decide +kernel
theorem dX3_insert_24 : decode cX3_insert 24 = .ok (.invokevirtual 38, 3) := by decide +kernel
theorem dX3_insert_27 : decode cX3_insert 27 = .ok (.iload_n 3, 1) := by decide +kernel
theorem dX3_insert_28 : decode cX3_insert 28 = .ok (.ireturn, 1) := by decide +kernel
theorem dX3_update_0 : decode cX3_update 0 = .ok (.aload_n 0, 1) := by decide +kernel
theorem dX3_update_1 : decode cX3_update 1 = .ok (.iload_n 1, 1) := by decide +kernel
theorem dX3_update_2 : decode cX3_update 2 = .ok (.invokevirtual 42, 3) := by decide +kernel
theorem dX3_update_5 : decode cX3_update 5 = .ok (.iload_n 2, 1) := by decide +kernel
theorem dX3_update_6 : decode cX3_update 6 = .ok (.iload_n 3, 1) := by decide +kernel
theorem dX3_update_7 : decode cX3_update 7 = .ok (.invokestatic 30, 3) := by decide +kernel
theorem dX3_update_10 : decode cX3_update 10 = .ok (.aload_n 0, 1) := by decide +kernel
theorem dX3_update_11 : decode cX3_update 11 = .ok (.getfield 12, 3) := by decide +kernel
theorem dX3_update_14 : decode cX3_update 14 = .ok (.iload_n 1, 1) := by decide +kernel
theorem dX3_update_15 : decode cX3_update 15 = .ok (.iload_n 2, 1) := by decide +kernel
theorem dX3_update_16 : decode cX3_update 16 = .ok (.iload_n 3, 1) := by decide +kernel
theorem dX3_update_17 : decode cX3_update 17 = .ok (.invokevirtual 46, 3) := by decide +kernel
theorem dX3_update_20 : decode cX3_update 20 = .ok (.istore 4, 2) := by decide +kernel
theorem dX3_update_22 : decode cX3_update 22 = .ok (.iload 4, 2) := by decide +kernel
theorem dX3_update_24 : decode cX3_update 24 = .ok (.ifCond .eq 10, 3) := by decide +kernel
theorem dX3_update_27 : decode cX3_update 27 = .ok (.aload_n 0, 1) := by decide +kernel
theorem dX3_update_28 : decode cX3_update 28 = .ok (.iload_n 1, 1) := by decide +kernel
theorem dX3_update_29 : decode cX3_update 29 = .ok (.iload_n 2, 1) := by decide +kernel
theorem dX3_update_30 : decode cX3_update 30 = .ok (.iload_n 3, 1) := by decide +kernel
theorem dX3_update_31 : decode cX3_update 31 = .ok (.invokevirtual 38, 3) := by decide +kernel
theorem dX3_update_34 : decode cX3_update 34 = .ok (.iload 4, 2) := by decide +kernel
theorem dX3_update_36 : decode cX3_update 36 = .ok (.ireturn, 1) := by decide +kernel
theorem dX3_delete_0 : decode cX3_delete 0 = .ok (.aload_n 0, 1) := by decide +kernel
theorem dX3_delete_1 : decode cX3_delete 1 = .ok (.iload_n 1, 1) := by decide +kernel
theorem dX3_delete_2 : decode cX3_delete 2 = .ok (.invokevirtual 42, 3) := by decide +kernel
theorem dX3_delete_5 : decode cX3_delete 5 = .ok (.aload_n 0, 1) := by decide +kernel
theorem dX3_delete_6 : decode cX3_delete 6 = .ok (.getfield 12, 3) := by decide +kernel
theorem dX3_delete_9 : decode cX3_delete 9 = .ok (.iload_n 1, 1) := by decide +kernel
theorem dX3_delete_10 : decode cX3_delete 10 = .ok (.invokevirtual 50, 3) := by decide +kernel
theorem dX3_delete_13 : decode cX3_delete 13 = .ok (.istore_n 2, 1) := by decide +kernel
theorem dX3_delete_14 : decode cX3_delete 14 = .ok (.aload_n 0, 1) := by decide +kernel
theorem dX3_delete_15 : decode cX3_delete 15 = .ok (.getfield 12, 3) := by decide +kernel
theorem dX3_delete_18 : decode cX3_delete 18 = .ok (.iload_n 1, 1) := by decide +kernel
theorem dX3_delete_19 : decode cX3_delete 19 = .ok (.invokevirtual 54, 3) := by decide +kernel
theorem dX3_delete_22 : decode cX3_delete 22 = .ok (.aload_n 0, 1) := by decide +kernel
theorem dX3_delete_23 : decode cX3_delete 23 = .ok (.iload_n 1, 1) := by decide +kernel
theorem dX3_delete_24 : decode cX3_delete 24 = .ok (.iconst (-1), 1) := by decide +kernel
theorem dX3_delete_25 : decode cX3_delete 25 = .ok (.iconst (-1), 1) := by decide +kernel
theorem dX3_delete_26 : decode cX3_delete 26 = .ok (.invokevirtual 38, 3) := by decide +kernel
theorem dX3_delete_29 : decode cX3_delete 29 = .ok (.iload_n 2, 1) := by decide +kernel
theorem dX3_delete_30 : decode cX3_delete 30 = .ok (.ireturn, 1) := by decide +kernel
theorem dX3_length_0 : decode cX3_length 0 = .ok (.aload_n 0, 1) := by decide +kernel
theorem dX3_length_1 : decode cX3_length 1 = .ok (.getfield 12, 3) := by decide +kernel
theorem dX3_length_4 : decode cX3_length 4 = .ok (.iload_n 1, 1) := by decide +kernel
theorem dX3_length_5 : decode cX3_length 5 = .ok (.invokevirtual 57, 3) := by decide +kernel
theorem dX3_length_8 : decode cX3_length 8 = .ok (.ifCond .eq 14, 3) := by decide +kernel
theorem dX3_length_11 : decode cX3_length 11 = .ok (.aload_n 0, 1) := by decide +kernel
theorem dX3_length_12 : decode cX3_length 12 = .ok (.getfield 12, 3) := by decide +kernel
theorem dX3_length_15 : decode cX3_length 15 = .ok (.iload_n 1, 1) := by decide +kernel
theorem dX3_length_16 : decode cX3_length 16 = .ok (.invokevirtual 50, 3) := by decide +kernel
theorem dX3_length_19 : decode cX3_length 19 = .ok (.goto 4, 3) := by decide +kernel
theorem dX3_length_22 : decode cX3_length 22 = .ok (.iconst (-1), 1) := by decide +kernel
theorem dX3_length_23 : decode cX3_length 23 = .ok (.ireturn, 1) := by decide +kernel
theorem dX3_byteAt_0 : decode cX3_byteAt 0 = .ok (.aload_n 0, 1) := by decide +kernel
theorem dX3_byteAt_1 : decode cX3_byteAt 1 = .ok (.iload_n 1, 1) := by decide +kernel
theorem dX3_byteAt_2 : decode cX3_byteAt 2 = .ok (.invokevirtual 42, 3) := by decide +kernel
theorem dX3_byteAt_5 : decode cX3_byteAt 5 = .ok (.iload_n 2, 1) := by decide +kernel
theorem dX3_byteAt_6 : decode cX3_byteAt 6 = .ok (.ifCond .lt 15, 3) := by decide +kernel
theorem dX3_byteAt_9 : decode cX3_byteAt 9 = .ok (.iload_n 2, 1) := by decide +kernel
theorem dX3_byteAt_10 : decode cX3_byteAt 10 = .ok (.aload_n 0, 1) := by decide +kernel
theorem dX3_byteAt_11 : decode cX3_byteAt 11 = .ok (.getfield 12, 3) := by decide +kernel
theorem dX3_byteAt_14 : decode cX3_byteAt 14 = .ok (.iload_n 1, 1) := by decide +kernel
theorem dX3_byteAt_15 : decode cX3_byteAt 15 = .ok (.invokevirtual 50, 3) := by decide +kernel
theorem dX3_byteAt_18 : decode cX3_byteAt 18 = .ok (.if_icmp .lt 5, 3) := by decide +kernel
theorem dX3_byteAt_21 : decode cX3_byteAt 21 = .ok (.iconst (-1), 1) := by decide +kernel
theorem dX3_byteAt_22 : decode cX3_byteAt 22 = .ok (.ireturn, 1) := by decide +kernel
theorem dX3_byteAt_23 : decode cX3_byteAt 23 = .ok (.aload_n 0, 1) := by decide +kernel
theorem dX3_byteAt_24 : decode cX3_byteAt 24 = .ok (.getfield 12, 3) := by decide +kernel
theorem dX3_byteAt_27 : decode cX3_byteAt 27 = .ok (.iload_n 1, 1) := by decide +kernel
theorem dX3_byteAt_28 : decode cX3_byteAt 28 = .ok (.invokevirtual 61, 3) := by decide +kernel
theorem dX3_byteAt_31 : decode cX3_byteAt 31 = .ok (.bipush 7, 2) := by decide +kernel
theorem dX3_byteAt_33 : decode cX3_byteAt 33 = .ok (.iload_n 2, 1) := by decide +kernel
theorem dX3_byteAt_34 : decode cX3_byteAt 34 = .ok (.imul, 1) := by decide +kernel
theorem dX3_byteAt_35 : decode cX3_byteAt 35 = .ok (.iadd, 1) := by decide +kernel
theorem dX3_byteAt_36 : decode cX3_byteAt 36 = .ok (.iload_n 2, 1) := by decide +kernel
theorem dX3_byteAt_37 : decode cX3_byteAt 37 = .ok (.bipush 16, 2) := by decide +kernel
theorem dX3_byteAt_39 : decode cX3_byteAt 39 = .ok (.idiv, 1) := by decide +kernel
theorem dX3_byteAt_40 : decode cX3_byteAt 40 = .ok (.iadd, 1) := by decide +kernel
theorem dX3_byteAt_41 : decode cX3_byteAt 41 = .ok (.sipush 256, 3) := by decide +kernel
theorem dX3_byteAt_44 : decode cX3_byteAt 44 = .ok (.irem, 1) := by decide +kernel
theorem dX3_byteAt_45 : decode cX3_byteAt 45 = .ok (.ireturn, 1) := by decide +kernel
theorem dX3_where_0 : decode cX3_where 0 = .ok (.aload_n 0, 1) := by decide +kernel
theorem dX3_where_1 : decode cX3_where 1 = .ok (.iload_n 1, 1) := by decide +kernel
theorem dX3_where_2 : decode cX3_where 2 = .ok (.invokevirtual 42, 3) := by decide +kernel
theorem dX3_where_5 : decode cX3_where 5 = .ok (.iload_n 2, 1) := by decide +kernel
theorem dX3_where_6 : decode cX3_where 6 = .ok (.tableswitch 75 0 3 #[30, 42, 54, 66], 30) := by decide +kernel
theorem dX3_where_36 : decode cX3_where 36 = .ok (.aload_n 0, 1) := by decide +kernel
theorem dX3_where_37 : decode cX3_where 37 = .ok (.getfield 12, 3) := by decide +kernel
theorem dX3_where_40 : decode cX3_where 40 = .ok (.iload_n 1, 1) := by decide +kernel
theorem dX3_where_41 : decode cX3_where 41 = .ok (.invokevirtual 64, 3) := by decide +kernel
theorem dX3_where_44 : decode cX3_where 44 = .ok (.bipush 32, 2) := by decide +kernel
theorem dX3_where_46 : decode cX3_where 46 = .ok (.idiv, 1) := by decide +kernel
theorem dX3_where_47 : decode cX3_where 47 = .ok (.ireturn, 1) := by decide +kernel
theorem dX3_where_48 : decode cX3_where 48 = .ok (.aload_n 0, 1) := by decide +kernel
theorem dX3_where_49 : decode cX3_where 49 = .ok (.getfield 12, 3) := by decide +kernel
theorem dX3_where_52 : decode cX3_where 52 = .ok (.iload_n 1, 1) := by decide +kernel
theorem dX3_where_53 : decode cX3_where 53 = .ok (.invokevirtual 64, 3) := by decide +kernel
theorem dX3_where_56 : decode cX3_where 56 = .ok (.bipush 32, 2) := by decide +kernel
theorem dX3_where_58 : decode cX3_where 58 = .ok (.irem, 1) := by decide +kernel
theorem dX3_where_59 : decode cX3_where 59 = .ok (.ireturn, 1) := by decide +kernel
theorem dX3_where_60 : decode cX3_where 60 = .ok (.aload_n 0, 1) := by decide +kernel
theorem dX3_where_61 : decode cX3_where 61 = .ok (.getfield 12, 3) := by decide +kernel
theorem dX3_where_64 : decode cX3_where 64 = .ok (.iload_n 1, 1) := by decide +kernel
theorem dX3_where_65 : decode cX3_where 65 = .ok (.invokevirtual 50, 3) := by decide +kernel
theorem dX3_where_68 : decode cX3_where 68 = .ok (.invokestatic 67, 3) := by decide +kernel
theorem dX3_where_71 : decode cX3_where 71 = .ok (.ireturn, 1) := by decide +kernel
theorem dX3_where_72 : decode cX3_where 72 = .ok (.aload_n 0, 1) := by decide +kernel
theorem dX3_where_73 : decode cX3_where 73 = .ok (.getfield 12, 3) := by decide +kernel
theorem dX3_where_76 : decode cX3_where 76 = .ok (.iload_n 1, 1) := by decide +kernel
theorem dX3_where_77 : decode cX3_where 77 = .ok (.invokevirtual 70, 3) := by decide +kernel
theorem dX3_where_80 : decode cX3_where 80 = .ok (.ireturn, 1) := by decide +kernel
theorem dX3_where_81 : decode cX3_where 81 = .ok (.new 73, 3) := by decide +kernel
theorem dX3_where_84 : decode cX3_where 84 = .ok (.dup, 1) := by decide +kernel
theorem dX3_where_85 : decode cX3_where 85 = .ok (.ldc 75, 2) := by decide +kernel
theorem dX3_where_87 : decode cX3_where 87 = .ok (.invokespecial 77, 3) := by decide +kernel
theorem dX3_where_90 : decode cX3_where 90 = .ok (.athrow, 1) := by decide +kernel
theorem dX3_next_0 : decode cX3_next 0 = .ok (.iload_n 1, 1) := by decide +kernel
theorem dX3_next_1 : decode cX3_next 1 = .ok (.sipush 3072, 3) := by decide +kernel
theorem dX3_next_4 : decode cX3_next 4 = .ok (.if_icmp .lt 7, 3) := by decide +kernel
theorem dX3_next_7 : decode cX3_next 7 = .ok (.iconst (-1), 1) := by decide +kernel
theorem dX3_next_8 : decode cX3_next 8 = .ok (.goto 17, 3) := by decide +kernel
theorem dX3_next_11 : decode cX3_next 11 = .ok (.aload_n 0, 1) := by decide +kernel
theorem dX3_next_12 : decode cX3_next 12 = .ok (.getfield 12, 3) := by decide +kernel
theorem dX3_next_15 : decode cX3_next 15 = .ok (.iload_n 1, 1) := by decide +kernel
theorem dX3_next_16 : decode cX3_next 16 = .ok (.iconst (-1), 1) := by decide +kernel
theorem dX3_next_17 : decode cX3_next 17 = .ok (.invokestatic 80, 3) := by decide +kernel
theorem dX3_next_20 : decode cX3_next 20 = .ok (.iconst 1, 1) := by decide +kernel
theorem dX3_next_21 : decode cX3_next 21 = .ok (.iadd, 1) := by decide +kernel
theorem dX3_next_22 : decode cX3_next 22 = .ok (.invokevirtual 85, 3) := by decide +kernel
theorem dX3_next_25 : decode cX3_next 25 = .ok (.ireturn, 1) := by decide +kernel
theorem dX3_page_0 : decode cX3_page 0 = .ok (.iload_n 1, 1) := by decide +kernel
theorem dX3_page_1 : decode cX3_page 1 = .ok (.invokestatic 88, 3) := by decide +kernel
theorem dX3_page_4 : decode cX3_page 4 = .ok (.aload_n 0, 1) := by decide +kernel
theorem dX3_page_5 : decode cX3_page 5 = .ok (.getfield 12, 3) := by decide +kernel
theorem dX3_page_8 : decode cX3_page 8 = .ok (.getfield 91, 3) := by decide +kernel
theorem dX3_page_11 : decode cX3_page 11 = .ok (.iload_n 1, 1) := by decide +kernel
theorem dX3_page_12 : decode cX3_page 12 = .ok (.aaload, 1) := by decide +kernel
theorem dX3_page_13 : decode cX3_page 13 = .ok (.astore_n 3, 1) := by decide +kernel
theorem dX3_page_14 : decode cX3_page 14 = .ok (.iload_n 2, 1) := by decide +kernel
theorem dX3_page_15 : decode cX3_page 15 = .ok (.tableswitch 193 0 8 #[49, 54, 71, 88, 105, 122, 142, 159, 176], 49) := by decide +kernel
theorem dX3_page_64 : decode cX3_page 64 = .ok (.aload_n 3, 1) := by decide +kernel
theorem dX3_page_65 : decode cX3_page 65 = .ok (.getfield 95, 3) := by decide +kernel
theorem dX3_page_68 : decode cX3_page 68 = .ok (.ireturn, 1) := by decide +kernel
theorem dX3_page_69 : decode cX3_page 69 = .ok (.aload_n 3, 1) := by decide +kernel
theorem dX3_page_70 : decode cX3_page 70 = .ok (.getfield 95, 3) := by decide +kernel
theorem dX3_page_73 : decode cX3_page 73 = .ok (.iconst 1, 1) := by decide +kernel
theorem dX3_page_74 : decode cX3_page 74 = .ok (.if_icmp .ne 10, 3) := by decide +kernel
theorem dX3_page_77 : decode cX3_page 77 = .ok (.aload_n 3, 1) := by decide +kernel
theorem dX3_page_78 : decode cX3_page 78 = .ok (.getfield 100, 3) := by decide +kernel
theorem dX3_page_81 : decode cX3_page 81 = .ok (.goto 4, 3) := by decide +kernel
theorem dX3_page_84 : decode cX3_page 84 = .ok (.iconst (-1), 1) := by decide +kernel
theorem dX3_page_85 : decode cX3_page 85 = .ok (.ireturn, 1) := by decide +kernel
theorem dX3_page_86 : decode cX3_page 86 = .ok (.aload_n 3, 1) := by decide +kernel
theorem dX3_page_87 : decode cX3_page 87 = .ok (.getfield 95, 3) := by decide +kernel
theorem dX3_page_90 : decode cX3_page 90 = .ok (.iconst 1, 1) := by decide +kernel
theorem dX3_page_91 : decode cX3_page 91 = .ok (.if_icmp .ne 10, 3) := by decide +kernel
theorem dX3_page_94 : decode cX3_page 94 = .ok (.aload_n 3, 1) := by decide +kernel
theorem dX3_page_95 : decode cX3_page 95 = .ok (.getfield 103, 3) := by decide +kernel
theorem dX3_page_98 : decode cX3_page 98 = .ok (.goto 4, 3) := by decide +kernel
theorem dX3_page_101 : decode cX3_page 101 = .ok (.iconst (-1), 1) := by decide +kernel
theorem dX3_page_102 : decode cX3_page 102 = .ok (.ireturn, 1) := by decide +kernel
theorem dX3_page_103 : decode cX3_page 103 = .ok (.aload_n 3, 1) := by decide +kernel
theorem dX3_page_104 : decode cX3_page 104 = .ok (.getfield 95, 3) := by decide +kernel
theorem dX3_page_107 : decode cX3_page 107 = .ok (.iconst 1, 1) := by decide +kernel
theorem dX3_page_108 : decode cX3_page 108 = .ok (.if_icmp .ne 10, 3) := by decide +kernel
theorem dX3_page_111 : decode cX3_page 111 = .ok (.aload_n 3, 1) := by decide +kernel
theorem dX3_page_112 : decode cX3_page 112 = .ok (.invokevirtual 106, 3) := by decide +kernel
theorem dX3_page_115 : decode cX3_page 115 = .ok (.goto 4, 3) := by decide +kernel
theorem dX3_page_118 : decode cX3_page 118 = .ok (.iconst (-1), 1) := by decide +kernel
theorem dX3_page_119 : decode cX3_page 119 = .ok (.ireturn, 1) := by decide +kernel
theorem dX3_page_120 : decode cX3_page 120 = .ok (.aload_n 3, 1) := by decide +kernel
theorem dX3_page_121 : decode cX3_page 121 = .ok (.getfield 95, 3) := by decide +kernel
theorem dX3_page_124 : decode cX3_page 124 = .ok (.iconst 1, 1) := by decide +kernel
theorem dX3_page_125 : decode cX3_page 125 = .ok (.if_icmp .ne 10, 3) := by decide +kernel
theorem dX3_page_128 : decode cX3_page 128 = .ok (.aload_n 3, 1) := by decide +kernel
theorem dX3_page_129 : decode cX3_page 129 = .ok (.getfield 110, 3) := by decide +kernel
theorem dX3_page_132 : decode cX3_page 132 = .ok (.goto 4, 3) := by decide +kernel
theorem dX3_page_135 : decode cX3_page 135 = .ok (.iconst (-1), 1) := by decide +kernel
theorem dX3_page_136 : decode cX3_page 136 = .ok (.ireturn, 1) := by decide +kernel
theorem dX3_page_137 : decode cX3_page 137 = .ok (.aload_n 3, 1) := by decide +kernel
theorem dX3_page_138 : decode cX3_page 138 = .ok (.getfield 95, 3) := by decide +kernel
theorem dX3_page_141 : decode cX3_page 141 = .ok (.iconst 1, 1) := by decide +kernel
theorem dX3_page_142 : decode cX3_page 142 = .ok (.if_icmp .ne 13, 3) := by decide +kernel
theorem dX3_page_145 : decode cX3_page 145 = .ok (.aload_n 3, 1) := by decide +kernel
theorem dX3_page_146 : decode cX3_page 146 = .ok (.invokevirtual 106, 3) := by decide +kernel
theorem dX3_page_149 : decode cX3_page 149 = .ok (.bipush 31, 2) := by decide +kernel
theorem dX3_page_151 : decode cX3_page 151 = .ok (.idiv, 1) := by decide +kernel
theorem dX3_page_152 : decode cX3_page 152 = .ok (.goto 4, 3) := by decide +kernel
theorem dX3_page_155 : decode cX3_page 155 = .ok (.iconst (-1), 1) := by decide +kernel
theorem dX3_page_156 : decode cX3_page 156 = .ok (.ireturn, 1) := by decide +kernel
theorem dX3_page_157 : decode cX3_page 157 = .ok (.aload_n 3, 1) := by decide +kernel
theorem dX3_page_158 : decode cX3_page 158 = .ok (.getfield 95, 3) := by decide +kernel
theorem dX3_page_161 : decode cX3_page 161 = .ok (.iconst 1, 1) := by decide +kernel
theorem dX3_page_162 : decode cX3_page 162 = .ok (.if_icmp .ne 10, 3) := by decide +kernel
theorem dX3_page_165 : decode cX3_page 165 = .ok (.aload_n 3, 1) := by decide +kernel
theorem dX3_page_166 : decode cX3_page 166 = .ok (.getfield 113, 3) := by decide +kernel
theorem dX3_page_169 : decode cX3_page 169 = .ok (.goto 4, 3) := by decide +kernel
theorem dX3_page_172 : decode cX3_page 172 = .ok (.iconst (-1), 1) := by decide +kernel
theorem dX3_page_173 : decode cX3_page 173 = .ok (.ireturn, 1) := by decide +kernel
theorem dX3_page_174 : decode cX3_page 174 = .ok (.aload_n 3, 1) := by decide +kernel
theorem dX3_page_175 : decode cX3_page 175 = .ok (.getfield 95, 3) := by decide +kernel
theorem dX3_page_178 : decode cX3_page 178 = .ok (.iconst 2, 1) := by decide +kernel
theorem dX3_page_179 : decode cX3_page 179 = .ok (.if_icmp .ne 10, 3) := by decide +kernel
theorem dX3_page_182 : decode cX3_page 182 = .ok (.aload_n 3, 1) := by decide +kernel
theorem dX3_page_183 : decode cX3_page 183 = .ok (.getfield 116, 3) := by decide +kernel
theorem dX3_page_186 : decode cX3_page 186 = .ok (.goto 4, 3) := by decide +kernel
theorem dX3_page_189 : decode cX3_page 189 = .ok (.iconst (-1), 1) := by decide +kernel
theorem dX3_page_190 : decode cX3_page 190 = .ok (.ireturn, 1) := by decide +kernel
theorem dX3_page_191 : decode cX3_page 191 = .ok (.aload_n 3, 1) := by decide +kernel
theorem dX3_page_192 : decode cX3_page 192 = .ok (.getfield 95, 3) := by decide +kernel
theorem dX3_page_195 : decode cX3_page 195 = .ok (.iconst 2, 1) := by decide +kernel
theorem dX3_page_196 : decode cX3_page 196 = .ok (.if_icmp .ne 10, 3) := by decide +kernel
theorem dX3_page_199 : decode cX3_page 199 = .ok (.aload_n 3, 1) := by decide +kernel
theorem dX3_page_200 : decode cX3_page 200 = .ok (.getfield 119, 3) := by decide +kernel
theorem dX3_page_203 : decode cX3_page 203 = .ok (.goto 4, 3) := by decide +kernel
theorem dX3_page_206 : decode cX3_page 206 = .ok (.iconst (-1), 1) := by decide +kernel
theorem dX3_page_207 : decode cX3_page 207 = .ok (.ireturn, 1) := by decide +kernel
theorem dX3_page_208 : decode cX3_page 208 = .ok (.new 73, 3) := by decide +kernel
theorem dX3_page_211 : decode cX3_page 211 = .ok (.dup, 1) := by decide +kernel
theorem dX3_page_212 : decode cX3_page 212 = .ok (.ldc 122, 2) := by decide +kernel
theorem dX3_page_214 : decode cX3_page 214 = .ok (.invokespecial 77, 3) := by decide +kernel
theorem dX3_page_217 : decode cX3_page 217 = .ok (.athrow, 1) := by decide +kernel
theorem dX3_slot_0 : decode cX3_slot 0 = .ok (.iload_n 1, 1) := by decide +kernel
theorem dX3_slot_1 : decode cX3_slot 1 = .ok (.invokestatic 88, 3) := by decide +kernel
theorem dX3_slot_4 : decode cX3_slot 4 = .ok (.iload_n 2, 1) := by decide +kernel
theorem dX3_slot_5 : decode cX3_slot 5 = .ok (.ifCond .ge 13, 3) := by decide +kernel
theorem dX3_slot_8 : decode cX3_slot 8 = .ok (.new 73, 3) := by decide +kernel
theorem dX3_slot_11 : decode cX3_slot 11 = .ok (.dup, 1) := by decide +kernel
theorem dX3_slot_12 : decode cX3_slot 12 = .ok (.ldc 124, 2) := by decide +kernel
theorem dX3_slot_14 : decode cX3_slot 14 = .ok (.invokespecial 77, 3) := by decide +kernel
theorem dX3_slot_17 : decode cX3_slot 17 = .ok (.athrow, 1) := by decide +kernel
theorem dX3_slot_18 : decode cX3_slot 18 = .ok (.aload_n 0, 1) := by decide +kernel
theorem dX3_slot_19 : decode cX3_slot 19 = .ok (.getfield 12, 3) := by decide +kernel
theorem dX3_slot_22 : decode cX3_slot 22 = .ok (.getfield 91, 3) := by decide +kernel
theorem dX3_slot_25 : decode cX3_slot 25 = .ok (.iload_n 1, 1) := by decide +kernel
theorem dX3_slot_26 : decode cX3_slot 26 = .ok (.aaload, 1) := by decide +kernel
theorem dX3_slot_27 : decode cX3_slot 27 = .ok (.astore_n 3, 1) := by decide +kernel
theorem dX3_slot_28 : decode cX3_slot 28 = .ok (.iload_n 2, 1) := by decide +kernel
theorem dX3_slot_29 : decode cX3_slot 29 = .ok (.aload_n 3, 1) := by decide +kernel
theorem dX3_slot_30 : decode cX3_slot 30 = .ok (.getfield 100, 3) := by decide +kernel
theorem dX3_slot_33 : decode cX3_slot 33 = .ok (.if_icmp .ge 12, 3) := by decide +kernel
theorem dX3_slot_36 : decode cX3_slot 36 = .ok (.aload_n 3, 1) := by decide +kernel
theorem dX3_slot_37 : decode cX3_slot 37 = .ok (.getfield 126, 3) := by decide +kernel
theorem dX3_slot_40 : decode cX3_slot 40 = .ok (.iload_n 2, 1) := by decide +kernel
theorem dX3_slot_41 : decode cX3_slot 41 = .ok (.iaload, 1) := by decide +kernel
theorem dX3_slot_42 : decode cX3_slot 42 = .ok (.goto 4, 3) := by decide +kernel
theorem dX3_slot_45 : decode cX3_slot 45 = .ok (.iconst (-1), 1) := by decide +kernel
theorem dX3_slot_46 : decode cX3_slot 46 = .ok (.ireturn, 1) := by decide +kernel
theorem dX3_sync_0 : decode cX3_sync 0 = .ok (.aload_n 0, 1) := by decide +kernel
theorem dX3_sync_1 : decode cX3_sync 1 = .ok (.getfield 22, 3) := by decide +kernel
theorem dX3_sync_4 : decode cX3_sync 4 = .ok (.getfield 130, 3) := by decide +kernel
theorem dX3_sync_7 : decode cX3_sync 7 = .ok (.istore_n 1, 1) := by decide +kernel
theorem dX3_sync_8 : decode cX3_sync 8 = .ok (.aload_n 0, 1) := by decide +kernel
theorem dX3_sync_9 : decode cX3_sync 9 = .ok (.invokevirtual 133, 3) := by decide +kernel
theorem dX3_sync_12 : decode cX3_sync 12 = .ok (.iload_n 1, 1) := by decide +kernel
theorem dX3_sync_13 : decode cX3_sync 13 = .ok (.ireturn, 1) := by decide +kernel
theorem dX3_crash_0 : decode cX3_crash 0 = .ok (.iload_n 1, 1) := by decide +kernel
theorem dX3_crash_1 : decode cX3_crash 1 = .ok (.ifCond .lt 14, 3) := by decide +kernel
theorem dX3_crash_4 : decode cX3_crash 4 = .ok (.iload_n 1, 1) := by decide +kernel
theorem dX3_crash_5 : decode cX3_crash 5 = .ok (.aload_n 0, 1) := by decide +kernel
theorem dX3_crash_6 : decode cX3_crash 6 = .ok (.getfield 22, 3) := by decide +kernel
theorem dX3_crash_9 : decode cX3_crash 9 = .ok (.getfield 130, 3) := by decide +kernel
theorem dX3_crash_12 : decode cX3_crash 12 = .ok (.if_icmp .le 13, 3) := by decide +kernel
theorem dX3_crash_15 : decode cX3_crash 15 = .ok (.new 73, 3) := by decide +kernel
theorem dX3_crash_18 : decode cX3_crash 18 = .ok (.dup, 1) := by decide +kernel
theorem dX3_crash_19 : decode cX3_crash 19 = .ok (.ldc 136, 2) := by decide +kernel
theorem dX3_crash_21 : decode cX3_crash 21 = .ok (.invokespecial 77, 3) := by decide +kernel
theorem dX3_crash_24 : decode cX3_crash 24 = .ok (.athrow, 1) := by decide +kernel
theorem dX3_crash_25 : decode cX3_crash 25 = .ok (.aload_n 0, 1) := by decide +kernel
theorem dX3_crash_26 : decode cX3_crash 26 = .ok (.getfield 22, 3) := by decide +kernel
theorem dX3_crash_29 : decode cX3_crash 29 = .ok (.getfield 130, 3) := by decide +kernel
theorem dX3_crash_32 : decode cX3_crash 32 = .ok (.iload_n 1, 1) := by decide +kernel
theorem dX3_crash_33 : decode cX3_crash 33 = .ok (.isub, 1) := by decide +kernel
theorem dX3_crash_34 : decode cX3_crash 34 = .ok (.istore_n 2, 1) := by decide +kernel
theorem dX3_crash_35 : decode cX3_crash 35 = .ok (.aload_n 0, 1) := by decide +kernel
theorem dX3_crash_36 : decode cX3_crash 36 = .ok (.getfield 22, 3) := by decide +kernel
theorem dX3_crash_39 : decode cX3_crash 39 = .ok (.aload_n 0, 1) := by decide +kernel
theorem dX3_crash_40 : decode cX3_crash 40 = .ok (.getfield 16, 3) := by decide +kernel
theorem dX3_crash_43 : decode cX3_crash 43 = .ok (.iload_n 1, 1) := by decide +kernel
theorem dX3_crash_44 : decode cX3_crash 44 = .ok (.invokevirtual 138, 3) := by decide +kernel
theorem dX3_crash_47 : decode cX3_crash 47 = .ok (.aload_n 0, 1) := by decide +kernel
theorem dX3_crash_48 : decode cX3_crash 48 = .ok (.getfield 12, 3) := by decide +kernel
theorem dX3_crash_51 : decode cX3_crash 51 = .ok (.aload_n 0, 1) := by decide +kernel
theorem dX3_crash_52 : decode cX3_crash 52 = .ok (.getfield 16, 3) := by decide +kernel
theorem dX3_crash_55 : decode cX3_crash 55 = .ok (.invokevirtual 142, 3) := by decide +kernel
theorem dX3_crash_58 : decode cX3_crash 58 = .ok (.aload_n 0, 1) := by decide +kernel
theorem dX3_crash_59 : decode cX3_crash 59 = .ok (.getfield 22, 3) := by decide +kernel
theorem dX3_crash_62 : decode cX3_crash 62 = .ok (.iconst 0, 1) := by decide +kernel
theorem dX3_crash_63 : decode cX3_crash 63 = .ok (.putfield 130, 3) := by decide +kernel
theorem dX3_crash_66 : decode cX3_crash 66 = .ok (.aload_n 0, 1) := by decide +kernel
theorem dX3_crash_67 : decode cX3_crash 67 = .ok (.dup, 1) := by decide +kernel
theorem dX3_crash_68 : decode cX3_crash 68 = .ok (.getfield 26, 3) := by decide +kernel
theorem dX3_crash_71 : decode cX3_crash 71 = .ok (.iconst 1, 1) := by decide +kernel
theorem dX3_crash_72 : decode cX3_crash 72 = .ok (.iadd, 1) := by decide +kernel
theorem dX3_crash_73 : decode cX3_crash 73 = .ok (.putfield 26, 3) := by decide +kernel
theorem dX3_crash_76 : decode cX3_crash 76 = .ok (.iload_n 2, 1) := by decide +kernel
theorem dX3_crash_77 : decode cX3_crash 77 = .ok (.ireturn, 1) := by decide +kernel
theorem dX3_total_0 : decode cX3_total 0 = .ok (.iload_n 1, 1) := by decide +kernel
theorem dX3_total_1 : decode cX3_total 1 = .ok (.tableswitch 119 0 7 #[47, 63, 72, 81, 90, 98, 106, 114], 47) := by decide +kernel
theorem dX3_total_48 : decode cX3_total 48 = .ok (.aload_n 0, 1) := by decide +kernel
theorem dX3_total_49 : decode cX3_total 49 = .ok (.getfield 12, 3) := by decide +kernel
theorem dX3_total_52 : decode cX3_total 52 = .ok (.invokevirtual 146, 3) := by decide +kernel
theorem dX3_total_55 : decode cX3_total 55 = .ok (.aload_n 0, 1) := by decide +kernel
theorem dX3_total_56 : decode cX3_total 56 = .ok (.getfield 12, 3) := by decide +kernel
theorem dX3_total_59 : decode cX3_total 59 = .ok (.invokevirtual 149, 3) := by decide +kernel
theorem dX3_total_62 : decode cX3_total 62 = .ok (.isub, 1) := by decide +kernel
theorem dX3_total_63 : decode cX3_total 63 = .ok (.ireturn, 1) := by decide +kernel
theorem dX3_total_64 : decode cX3_total 64 = .ok (.aload_n 0, 1) := by decide +kernel
theorem dX3_total_65 : decode cX3_total 65 = .ok (.getfield 12, 3) := by decide +kernel
theorem dX3_total_68 : decode cX3_total 68 = .ok (.iconst 0, 1) := by decide +kernel
theorem dX3_total_69 : decode cX3_total 69 = .ok (.invokevirtual 152, 3) := by decide +kernel
theorem dX3_total_72 : decode cX3_total 72 = .ok (.ireturn, 1) := by decide +kernel
theorem dX3_total_73 : decode cX3_total 73 = .ok (.aload_n 0, 1) := by decide +kernel
theorem dX3_total_74 : decode cX3_total 74 = .ok (.getfield 12, 3) := by decide +kernel
theorem dX3_total_77 : decode cX3_total 77 = .ok (.iconst 1, 1) := by decide +kernel
theorem dX3_total_78 : decode cX3_total 78 = .ok (.invokevirtual 152, 3) := by decide +kernel
theorem dX3_total_81 : decode cX3_total 81 = .ok (.ireturn, 1) := by decide +kernel
theorem dX3_total_82 : decode cX3_total 82 = .ok (.aload_n 0, 1) := by decide +kernel
theorem dX3_total_83 : decode cX3_total 83 = .ok (.getfield 12, 3) := by decide +kernel
theorem dX3_total_86 : decode cX3_total 86 = .ok (.iconst 2, 1) := by decide +kernel
theorem dX3_total_87 : decode cX3_total 87 = .ok (.invokevirtual 152, 3) := by decide +kernel
theorem dX3_total_90 : decode cX3_total 90 = .ok (.ireturn, 1) := by decide +kernel
theorem dX3_total_91 : decode cX3_total 91 = .ok (.aload_n 0, 1) := by decide +kernel
theorem dX3_total_92 : decode cX3_total 92 = .ok (.getfield 12, 3) := by decide +kernel
theorem dX3_total_95 : decode cX3_total 95 = .ok (.invokevirtual 149, 3) := by decide +kernel
theorem dX3_total_98 : decode cX3_total 98 = .ok (.ireturn, 1) := by decide +kernel
theorem dX3_total_99 : decode cX3_total 99 = .ok (.aload_n 0, 1) := by decide +kernel
theorem dX3_total_100 : decode cX3_total 100 = .ok (.getfield 22, 3) := by decide +kernel
theorem dX3_total_103 : decode cX3_total 103 = .ok (.getfield 130, 3) := by decide +kernel
theorem dX3_total_106 : decode cX3_total 106 = .ok (.ireturn, 1) := by decide +kernel
theorem dX3_total_107 : decode cX3_total 107 = .ok (.aload_n 0, 1) := by decide +kernel
theorem dX3_total_108 : decode cX3_total 108 = .ok (.getfield 12, 3) := by decide +kernel
theorem dX3_total_111 : decode cX3_total 111 = .ok (.invokevirtual 155, 3) := by decide +kernel
theorem dX3_total_114 : decode cX3_total 114 = .ok (.ireturn, 1) := by decide +kernel
theorem dX3_total_115 : decode cX3_total 115 = .ok (.aload_n 0, 1) := by decide +kernel
theorem dX3_total_116 : decode cX3_total 116 = .ok (.getfield 26, 3) := by decide +kernel
theorem dX3_total_119 : decode cX3_total 119 = .ok (.ireturn, 1) := by decide +kernel
theorem dX3_total_120 : decode cX3_total 120 = .ok (.new 73, 3) := by decide +kernel
theorem dX3_total_123 : decode cX3_total 123 = .ok (.dup, 1) := by decide +kernel
theorem dX3_total_124 : decode cX3_total 124 = .ok (.ldc 158, 2) := by decide +kernel
theorem dX3_total_126 : decode cX3_total 126 = .ok (.invokespecial 77, 3) := by decide +kernel
theorem dX3_total_129 : decode cX3_total 129 = .ok (.athrow, 1) := by decide +kernel
theorem dX3_noteChange_0 : decode cX3_noteChange 0 = .ok (.aload_n 0, 1) := by decide +kernel
theorem dX3_noteChange_1 : decode cX3_noteChange 1 = .ok (.getfield 22, 3) := by decide +kernel
theorem dX3_noteChange_4 : decode cX3_noteChange 4 = .ok (.getfield 130, 3) := by decide +kernel
theorem dX3_noteChange_7 : decode cX3_noteChange 7 = .ok (.sipush 512, 3) := by decide +kernel
theorem dX3_noteChange_10 : decode cX3_noteChange 10 = .ok (.if_icmp .ge 16, 3) := by decide +kernel
theorem dX3_noteChange_13 : decode cX3_noteChange 13 = .ok (.aload_n 0, 1) := by decide +kernel
theorem dX3_noteChange_14 : decode cX3_noteChange 14 = .ok (.getfield 22, 3) := by decide +kernel
theorem dX3_noteChange_17 : decode cX3_noteChange 17 = .ok (.iload_n 1, 1) := by decide +kernel
theorem dX3_noteChange_18 : decode cX3_noteChange 18 = .ok (.iload_n 2, 1) := by decide +kernel
theorem dX3_noteChange_19 : decode cX3_noteChange 19 = .ok (.iload_n 3, 1) := by decide +kernel
theorem dX3_noteChange_20 : decode cX3_noteChange 20 = .ok (.invokevirtual 160, 3) := by decide +kernel
theorem dX3_noteChange_23 : decode cX3_noteChange 23 = .ok (.goto 7, 3) := by decide +kernel
theorem dX3_noteChange_26 : decode cX3_noteChange 26 = .ok (.aload_n 0, 1) := by decide +kernel
theorem dX3_noteChange_27 : decode cX3_noteChange 27 = .ok (.invokevirtual 133, 3) := by decide +kernel
theorem dX3_noteChange_30 : decode cX3_noteChange 30 = .ok (.return_, 1) := by decide +kernel
theorem dX3_settle_0 : decode cX3_settle 0 = .ok (.aload_n 0, 1) := by decide +kernel
theorem dX3_settle_1 : decode cX3_settle 1 = .ok (.getfield 16, 3) := by decide +kernel
theorem dX3_settle_4 : decode cX3_settle 4 = .ok (.aload_n 0, 1) := by decide +kernel
theorem dX3_settle_5 : decode cX3_settle 5 = .ok (.getfield 12, 3) := by decide +kernel
theorem dX3_settle_8 : decode cX3_settle 8 = .ok (.invokevirtual 142, 3) := by decide +kernel
theorem dX3_settle_11 : decode cX3_settle 11 = .ok (.aload_n 0, 1) := by decide +kernel
theorem dX3_settle_12 : decode cX3_settle 12 = .ok (.getfield 22, 3) := by decide +kernel
theorem dX3_settle_15 : decode cX3_settle 15 = .ok (.iconst 0, 1) := by decide +kernel
theorem dX3_settle_16 : decode cX3_settle 16 = .ok (.putfield 130, 3) := by decide +kernel
theorem dX3_settle_19 : decode cX3_settle 19 = .ok (.return_, 1) := by decide +kernel
theorem dX3_checkRecord_0 : decode cX3_checkRecord 0 = .ok (.aload_n 0, 1) := by decide +kernel
theorem dX3_checkRecord_1 : decode cX3_checkRecord 1 = .ok (.getfield 12, 3) := by decide +kernel
theorem dX3_checkRecord_4 : decode cX3_checkRecord 4 = .ok (.iload_n 1, 1) := by decide +kernel
theorem dX3_checkRecord_5 : decode cX3_checkRecord 5 = .ok (.invokevirtual 57, 3) := by decide +kernel
theorem dX3_checkRecord_8 : decode cX3_checkRecord 8 = .ok (.ifCond .ne 13, 3) := by decide +kernel
theorem dX3_checkRecord_11 : decode cX3_checkRecord 11 = .ok (.new 163, 3) := by decide +kernel
theorem dX3_checkRecord_14 : decode cX3_checkRecord 14 = .ok (.dup, 1) := by decide +kernel
theorem dX3_checkRecord_15 : decode cX3_checkRecord 15 = .ok (.ldc 165, 2) := by decide +kernel
theorem dX3_checkRecord_17 : decode cX3_checkRecord 17 = .ok (.invokespecial 167, 3) := by decide +kernel
theorem dX3_checkRecord_20 : decode cX3_checkRecord 20 = .ok (.athrow, 1) := by decide +kernel
theorem dX3_checkRecord_21 : decode cX3_checkRecord 21 = .ok (.return_, 1) := by decide +kernel
theorem dX3_checkValue_0 : decode cX3_checkValue 0 = .ok (.iload_n 0, 1) := by decide +kernel
theorem dX3_checkValue_1 : decode cX3_checkValue 1 = .ok (.ifCond .lt 21, 3) := by decide +kernel
theorem dX3_checkValue_4 : decode cX3_checkValue 4 = .ok (.iload_n 0, 1) := by decide +kernel
theorem dX3_checkValue_5 : decode cX3_checkValue 5 = .ok (.sipush 1200, 3) := by decide +kernel
theorem dX3_checkValue_8 : decode cX3_checkValue 8 = .ok (.if_icmp .gt 14, 3) := by decide +kernel
theorem dX3_checkValue_11 : decode cX3_checkValue 11 = .ok (.iload_n 1, 1) := by decide +kernel
theorem dX3_checkValue_12 : decode cX3_checkValue 12 = .ok (.ifCond .lt 10, 3) := by decide +kernel
theorem dX3_checkValue_15 : decode cX3_checkValue 15 = .ok (.iload_n 1, 1) := by decide +kernel
theorem dX3_checkValue_16 : decode cX3_checkValue 16 = .ok (.sipush 255, 3) := by decide +kernel
theorem dX3_checkValue_19 : decode cX3_checkValue 19 = .ok (.if_icmp .le 13, 3) := by decide +kernel
theorem dX3_checkValue_22 : decode cX3_checkValue 22 = .ok (.new 73, 3) := by decide +kernel
theorem dX3_checkValue_25 : decode cX3_checkValue 25 = .ok (.dup, 1) := by decide +kernel
theorem dX3_checkValue_26 : decode cX3_checkValue 26 = .ok (.ldc 168, 2) := by decide +kernel
theorem dX3_checkValue_28 : decode cX3_checkValue 28 = .ok (.invokespecial 77, 3) := by decide +kernel
theorem dX3_checkValue_31 : decode cX3_checkValue 31 = .ok (.athrow, 1) := by decide +kernel
theorem dX3_checkValue_32 : decode cX3_checkValue 32 = .ok (.return_, 1) := by decide +kernel
theorem dX3_checkPage_0 : decode cX3_checkPage 0 = .ok (.iload_n 0, 1) := by decide +kernel
theorem dX3_checkPage_1 : decode cX3_checkPage 1 = .ok (.ifCond .lt 9, 3) := by decide +kernel
theorem dX3_checkPage_4 : decode cX3_checkPage 4 = .ok (.iload_n 0, 1) := by decide +kernel
theorem dX3_checkPage_5 : decode cX3_checkPage 5 = .ok (.bipush 96, 2) := by decide +kernel
theorem dX3_checkPage_7 : decode cX3_checkPage 7 = .ok (.if_icmp .lt 13, 3) := by decide +kernel
theorem dX3_checkPage_10 : decode cX3_checkPage 10 = .ok (.new 73, 3) := by decide +kernel
theorem dX3_checkPage_13 : decode cX3_checkPage 13 = .ok (.dup, 1) := by decide +kernel
theorem dX3_checkPage_14 : decode cX3_checkPage 14 = .ok (.ldc 170, 2) := by decide +kernel
theorem dX3_checkPage_16 : decode cX3_checkPage 16 = .ok (.invokespecial 77, 3) := by decide +kernel
theorem dX3_checkPage_19 : decode cX3_checkPage 19 = .ok (.athrow, 1) := by decide +kernel
theorem dX3_checkPage_20 : decode cX3_checkPage 20 = .ok (.return_, 1) := by decide +kernel
theorem dX3_cellBytes_0 : decode cX3_cellBytes 0 = .ok (.iload_n 0, 1) := by decide +kernel
theorem dX3_cellBytes_1 : decode cX3_cellBytes 1 = .ok (.iconst 2, 1) := by decide +kernel
theorem dX3_cellBytes_2 : decode cX3_cellBytes 2 = .ok (.if_icmp .ne 5, 3) := by decide +kernel
theorem dX3_cellBytes_5 : decode cX3_cellBytes 5 = .ok (.iconst 5, 1) := by decide +kernel
theorem dX3_cellBytes_6 : decode cX3_cellBytes 6 = .ok (.ireturn, 1) := by decide +kernel
theorem dX3_cellBytes_7 : decode cX3_cellBytes 7 = .ok (.iload_n 1, 1) := by decide +kernel
theorem dX3_cellBytes_8 : decode cX3_cellBytes 8 = .ok (.bipush 100, 2) := by decide +kernel
theorem dX3_cellBytes_10 : decode cX3_cellBytes 10 = .ok (.if_icmp .le 8, 3) := by decide +kernel
theorem dX3_cellBytes_13 : decode cX3_cellBytes 13 = .ok (.bipush 9, 2) := by decide +kernel
theorem dX3_cellBytes_15 : decode cX3_cellBytes 15 = .ok (.goto 6, 3) := by decide +kernel
theorem dX3_cellBytes_18 : decode cX3_cellBytes 18 = .ok (.iload_n 1, 1) := by decide +kernel
theorem dX3_cellBytes_19 : decode cX3_cellBytes 19 = .ok (.iconst 1, 1) := by decide +kernel
theorem dX3_cellBytes_20 : decode cX3_cellBytes 20 = .ok (.iadd, 1) := by decide +kernel
theorem dX3_cellBytes_21 : decode cX3_cellBytes 21 = .ok (.istore_n 2, 1) := by decide +kernel
theorem dX3_cellBytes_22 : decode cX3_cellBytes 22 = .ok (.iload_n 0, 1) := by decide +kernel
theorem dX3_cellBytes_23 : decode cX3_cellBytes 23 = .ok (.iconst 3, 1) := by decide +kernel
theorem dX3_cellBytes_24 : decode cX3_cellBytes 24 = .ok (.if_icmp .ne 9, 3) := by decide +kernel
theorem dX3_cellBytes_27 : decode cX3_cellBytes 27 = .ok (.iload_n 2, 1) := by decide +kernel
theorem dX3_cellBytes_28 : decode cX3_cellBytes 28 = .ok (.iconst 4, 1) := by decide +kernel
theorem dX3_cellBytes_29 : decode cX3_cellBytes 29 = .ok (.iadd, 1) := by decide +kernel
theorem dX3_cellBytes_30 : decode cX3_cellBytes 30 = .ok (.goto 4, 3) := by decide +kernel
theorem dX3_cellBytes_33 : decode cX3_cellBytes 33 = .ok (.iload_n 2, 1) := by decide +kernel
theorem dX3_cellBytes_34 : decode cX3_cellBytes 34 = .ok (.istore_n 3, 1) := by decide +kernel
theorem dX3_cellBytes_35 : decode cX3_cellBytes 35 = .ok (.iload_n 3, 1) := by decide +kernel
theorem dX3_cellBytes_36 : decode cX3_cellBytes 36 = .ok (.iconst 5, 1) := by decide +kernel
theorem dX3_cellBytes_37 : decode cX3_cellBytes 37 = .ok (.if_icmp .ge 7, 3) := by decide +kernel
theorem dX3_cellBytes_40 : decode cX3_cellBytes 40 = .ok (.iconst 5, 1) := by decide +kernel
theorem dX3_cellBytes_41 : decode cX3_cellBytes 41 = .ok (.goto 4, 3) := by decide +kernel
theorem dX3_cellBytes_44 : decode cX3_cellBytes 44 = .ok (.iload_n 3, 1) := by decide +kernel
theorem dX3_cellBytes_45 : decode cX3_cellBytes 45 = .ok (.ireturn, 1) := by decide +kernel
theorem dX3_chainPages_0 : decode cX3_chainPages 0 = .ok (.iload_n 0, 1) := by decide +kernel
theorem dX3_chainPages_1 : decode cX3_chainPages 1 = .ok (.bipush 100, 2) := by decide +kernel
theorem dX3_chainPages_3 : decode cX3_chainPages 3 = .ok (.if_icmp .le 17, 3) := by decide +kernel
theorem dX3_chainPages_6 : decode cX3_chainPages 6 = .ok (.iload_n 0, 1) := by decide +kernel
theorem dX3_chainPages_7 : decode cX3_chainPages 7 = .ok (.sipush 240, 3) := by decide +kernel
theorem dX3_chainPages_10 : decode cX3_chainPages 10 = .ok (.iadd, 1) := by decide +kernel
theorem dX3_chainPages_11 : decode cX3_chainPages 11 = .ok (.iconst 1, 1) := by decide +kernel
theorem dX3_chainPages_12 : decode cX3_chainPages 12 = .ok (.isub, 1) := by decide +kernel
theorem dX3_chainPages_13 : decode cX3_chainPages 13 = .ok (.sipush 240, 3) := by decide +kernel
theorem dX3_chainPages_16 : decode cX3_chainPages 16 = .ok (.idiv, 1) := by decide +kernel
theorem dX3_chainPages_17 : decode cX3_chainPages 17 = .ok (.goto 4, 3) := by decide +kernel
theorem dX3_chainPages_20 : decode cX3_chainPages 20 = .ok (.iconst 0, 1) := by decide +kernel
theorem dX3_chainPages_21 : decode cX3_chainPages 21 = .ok (.ireturn, 1) := by decide +kernel
theorem dX4_init_0 : decode cX4_init 0 = .ok (.aload_n 0, 1) := by decide +kernel
theorem dX4_init_1 : decode cX4_init 1 = .ok (.invokespecial 1, 3) := by decide +kernel
theorem dX4_init_4 : decode cX4_init 4 = .ok (.aload_n 0, 1) := by decide +kernel
theorem dX4_init_5 : decode cX4_init 5 = .ok (.sipush 18816, 3) := by decide +kernel
theorem dX4_init_8 : decode cX4_init 8 = .ok (.newarray .int, 2) := by decide +kernel
theorem dX4_init_10 : decode cX4_init 10 = .ok (.putfield 7, 3) := by decide +kernel
theorem dX4_init_13 : decode cX4_init 13 = .ok (.aload_n 0, 1) := by decide +kernel
theorem dX4_init_14 : decode cX4_init 14 = .ok (.sipush 18816, 3) := by decide +kernel
theorem dX4_init_17 : decode cX4_init 17 = .ok (.newarray .int, 2) := by decide +kernel
theorem dX4_init_19 : decode cX4_init 19 = .ok (.putfield 13, 3) := by decide +kernel
theorem dX4_init_22 : decode cX4_init 22 = .ok (.aload_n 0, 1) := by decide +kernel
theorem dX4_init_23 : decode cX4_init 23 = .ok (.sipush 16000, 3) := by decide +kernel
theorem dX4_init_26 : decode cX4_init 26 = .ok (.newarray .int, 2) := by decide +kernel
theorem dX4_init_28 : decode cX4_init 28 = .ok (.putfield 16, 3) := by decide +kernel
theorem dX4_init_31 : decode cX4_init 31 = .ok (.iconst 0, 1) := by decide +kernel
theorem dX4_init_32 : decode cX4_init 32 = .ok (.istore_n 1, 1) := by decide +kernel
theorem dX4_init_33 : decode cX4_init 33 = .ok (.iload_n 1, 1) := by decide +kernel
theorem dX4_init_34 : decode cX4_init 34 = .ok (.bipush 96, 2) := by decide +kernel
theorem dX4_init_36 : decode cX4_init 36 = .ok (.if_icmp .ge 20, 3) := by decide +kernel
theorem dX4_init_39 : decode cX4_init 39 = .ok (.aload_n 0, 1) := by decide +kernel
theorem dX4_init_40 : decode cX4_init 40 = .ok (.getfield 7, 3) := by decide +kernel
theorem dX4_init_43 : decode cX4_init 43 = .ok (.sipush 192, 3) := by decide +kernel
theorem dX4_init_46 : decode cX4_init 46 = .ok (.iload_n 1, 1) := by decide +kernel
theorem dX4_init_47 : decode cX4_init 47 = .ok (.iadd, 1) := by decide +kernel
theorem dX4_init_48 : decode cX4_init 48 = .ok (.iconst (-1), 1) := by decide +kernel
theorem dX4_init_49 : decode cX4_init 49 = .ok (.iastore, 1) := by decide +kernel
theorem dX4_init_50 : decode cX4_init 50 = .ok (.iinc 1 1, 3) := by decide +kernel
theorem dX4_init_53 : decode cX4_init 53 = .ok (.goto (-20), 3) := by decide +kernel
theorem dX4_init_56 : decode cX4_init 56 = .ok (.iconst 0, 1) := by decide +kernel
theorem dX4_init_57 : decode cX4_init 57 = .ok (.istore_n 1, 1) := by decide +kernel
theorem dX4_init_58 : decode cX4_init 58 = .ok (.iload_n 1, 1) := by decide +kernel
theorem dX4_init_59 : decode cX4_init 59 = .ok (.sipush 3072, 3) := by decide +kernel
theorem dX4_init_62 : decode cX4_init 62 = .ok (.if_icmp .ge 31, 3) := by decide +kernel
theorem dX4_init_65 : decode cX4_init 65 = .ok (.aload_n 0, 1) := by decide +kernel
theorem dX4_init_66 : decode cX4_init 66 = .ok (.getfield 7, 3) := by decide +kernel
theorem dX4_init_69 : decode cX4_init 69 = .ok (.sipush 6528, 3) := by decide +kernel
theorem dX4_init_72 : decode cX4_init 72 = .ok (.iload_n 1, 1) := by decide +kernel
theorem dX4_init_73 : decode cX4_init 73 = .ok (.iadd, 1) := by decide +kernel
theorem dX4_init_74 : decode cX4_init 74 = .ok (.iconst (-1), 1) := by decide +kernel
theorem dX4_init_75 : decode cX4_init 75 = .ok (.iastore, 1) := by decide +kernel
theorem dX4_init_76 : decode cX4_init 76 = .ok (.aload_n 0, 1) := by decide +kernel
theorem dX4_init_77 : decode cX4_init 77 = .ok (.getfield 7, 3) := by decide +kernel
theorem dX4_init_80 : decode cX4_init 80 = .ok (.sipush 15744, 3) := by decide +kernel
theorem dX4_init_83 : decode cX4_init 83 = .ok (.iload_n 1, 1) := by decide +kernel
theorem dX4_init_84 : decode cX4_init 84 = .ok (.iadd, 1) := by decide +kernel
theorem dX4_init_85 : decode cX4_init 85 = .ok (.iconst (-1), 1) := by decide +kernel
theorem dX4_init_86 : decode cX4_init 86 = .ok (.iastore, 1) := by decide +kernel
theorem dX4_init_87 : decode cX4_init 87 = .ok (.iinc 1 1, 3) := by decide +kernel
theorem dX4_init_90 : decode cX4_init 90 = .ok (.goto (-32), 3) := by decide +kernel
theorem dX4_init_93 : decode cX4_init 93 = .ok (.aload_n 0, 1) := by decide +kernel
theorem dX4_init_94 : decode cX4_init 94 = .ok (.getfield 7, 3) := by decide +kernel
theorem dX4_init_97 : decode cX4_init 97 = .ok (.aload_n 0, 1) := by decide +kernel
theorem dX4_init_98 : decode cX4_init 98 = .ok (.getfield 13, 3) := by decide +kernel
theorem dX4_init_101 : decode cX4_init 101 = .ok (.invokestatic 19, 3) := by decide +kernel
theorem dX4_init_104 : decode cX4_init 104 = .ok (.return_, 1) := by decide +kernel
theorem dX4_thrown_0 : decode cX4_thrown 0 = .ok (.aload_n 0, 1) := by decide +kernel
theorem dX4_thrown_1 : decode cX4_thrown 1 = .ok (.getfield 23, 3) := by decide +kernel
theorem dX4_thrown_4 : decode cX4_thrown 4 = .ok (.ireturn, 1) := by decide +kernel
theorem dX4_fails_0 : decode cX4_fails 0 = .ok (.aload_n 0, 1) := by decide +kernel
theorem dX4_fails_1 : decode cX4_fails 1 = .ok (.iload_n 1, 1) := by decide +kernel
theorem dX4_fails_2 : decode cX4_fails 2 = .ok (.ifCond .eq 7, 3) := by decide +kernel
theorem dX4_fails_5 : decode cX4_fails 5 = .ok (.iload_n 2, 1) := by decide +kernel
theorem dX4_fails_6 : decode cX4_fails 6 = .ok (.goto 4, 3) := by decide +kernel
theorem dX4_fails_9 : decode cX4_fails 9 = .ok (.iconst 0, 1) := by decide +kernel
theorem dX4_fails_10 : decode cX4_fails 10 = .ok (.putfield 23, 3) := by decide +kernel
theorem dX4_fails_13 : decode cX4_fails 13 = .ok (.iload_n 1, 1) := by decide +kernel
theorem dX4_fails_14 : decode cX4_fails 14 = .ok (.ireturn, 1) := by decide +kernel
theorem dX4_copy_0 : decode cX4_copy 0 = .ok (.iconst 0, 1) := by decide +kernel
theorem dX4_copy_1 : decode cX4_copy 1 = .ok (.istore_n 2, 1) := by decide +kernel
theorem dX4_copy_2 : decode cX4_copy 2 = .ok (.iload_n 2, 1) := by decide +kernel
theorem dX4_copy_3 : decode cX4_copy 3 = .ok (.sipush 18816, 3) := by decide +kernel
theorem dX4_copy_6 : decode cX4_copy 6 = .ok (.if_icmp .ge 15, 3) := by decide +kernel
theorem dX4_copy_9 : decode cX4_copy 9 = .ok (.aload_n 1, 1) := by decide +kernel
theorem dX4_copy_10 : decode cX4_copy 10 = .ok (.iload_n 2, 1) := by decide +kernel
theorem dX4_copy_11 : decode cX4_copy 11 = .ok (.aload_n 0, 1) := by decide +kernel
theorem dX4_copy_12 : decode cX4_copy 12 = .ok (.iload_n 2, 1) := by decide +kernel
theorem dX4_copy_13 : decode cX4_copy 13 = .ok (.iaload, 1) := by decide +kernel
theorem dX4_copy_14 : decode cX4_copy 14 = .ok (.iastore, 1) := by decide +kernel
theorem dX4_copy_15 : decode cX4_copy 15 = .ok (.iinc 2 1, 3) := by decide +kernel
theorem dX4_copy_18 : decode cX4_copy 18 = .ok (.goto (-16), 3) := by decide +kernel
theorem dX4_copy_21 : decode cX4_copy 21 = .ok (.return_, 1) := by decide +kernel
theorem dX4_sizeOf_0 : decode cX4_sizeOf 0 = .ok (.aload_n 0, 1) := by decide +kernel
theorem dX4_sizeOf_1 : decode cX4_sizeOf 1 = .ok (.getfield 7, 3) := by decide +kernel
theorem dX4_sizeOf_4 : decode cX4_sizeOf 4 = .ok (.sipush 384, 3) := by decide +kernel
theorem dX4_sizeOf_7 : decode cX4_sizeOf 7 = .ok (.bipush 32, 2) := by decide +kernel
theorem dX4_sizeOf_9 : decode cX4_sizeOf 9 = .ok (.iload_n 1, 1) := by decide +kernel
theorem dX4_sizeOf_10 : decode cX4_sizeOf 10 = .ok (.imul, 1) := by decide +kernel
theorem dX4_sizeOf_11 : decode cX4_sizeOf 11 = .ok (.iadd, 1) := by decide +kernel
theorem dX4_sizeOf_12 : decode cX4_sizeOf 12 = .ok (.iload_n 2, 1) := by decide +kernel
theorem dX4_sizeOf_13 : decode cX4_sizeOf 13 = .ok (.iadd, 1) := by decide +kernel
theorem dX4_sizeOf_14 : decode cX4_sizeOf 14 = .ok (.iaload, 1) := by decide +kernel
theorem dX4_sizeOf_15 : decode cX4_sizeOf 15 = .ok (.ireturn, 1) := by decide +kernel
theorem dX4_slots_0 : decode cX4_slots 0 = .ok (.iconst 0, 1) := by decide +kernel
theorem dX4_slots_1 : decode cX4_slots 1 = .ok (.istore_n 2, 1) := by decide +kernel
theorem dX4_slots_2 : decode cX4_slots 2 = .ok (.iconst 0, 1) := by decide +kernel
theorem dX4_slots_3 : decode cX4_slots 3 = .ok (.istore_n 3, 1) := by decide +kernel
theorem dX4_slots_4 : decode cX4_slots 4 = .ok (.iload_n 3, 1) := by decide +kernel
theorem dX4_slots_5 : decode cX4_slots 5 = .ok (.bipush 32, 2) := by decide +kernel
theorem dX4_slots_7 : decode cX4_slots 7 = .ok (.if_icmp .ge 22, 3) := by decide +kernel
theorem dX4_slots_10 : decode cX4_slots 10 = .ok (.aload_n 0, 1) := by decide +kernel
theorem dX4_slots_11 : decode cX4_slots 11 = .ok (.iload_n 1, 1) := by decide +kernel
theorem dX4_slots_12 : decode cX4_slots 12 = .ok (.iload_n 3, 1) := by decide +kernel
theorem dX4_slots_13 : decode cX4_slots 13 = .ok (.invokevirtual 27, 3) := by decide +kernel
theorem dX4_slots_16 : decode cX4_slots 16 = .ok (.ifCond .le 7, 3) := by decide +kernel
theorem dX4_slots_19 : decode cX4_slots 19 = .ok (.iload_n 3, 1) := by decide +kernel
theorem dX4_slots_20 : decode cX4_slots 20 = .ok (.iconst 1, 1) := by decide +kernel
theorem dX4_slots_21 : decode cX4_slots 21 = .ok (.iadd, 1) := by decide +kernel
theorem dX4_slots_22 : decode cX4_slots 22 = .ok (.istore_n 2, 1) := by decide +kernel
theorem dX4_slots_23 : decode cX4_slots 23 = .ok (.iinc 3 1, 3) := by decide +kernel
theorem dX4_slots_26 : decode cX4_slots 26 = .ok (.goto (-22), 3) := by decide +kernel
theorem dX4_slots_29 : decode cX4_slots 29 = .ok (.iload_n 2, 1) := by decide +kernel
theorem dX4_slots_30 : decode cX4_slots 30 = .ok (.ireturn, 1) := by decide +kernel
theorem dX4_cells_0 : decode cX4_cells 0 = .ok (.iconst 0, 1) := by decide +kernel
theorem dX4_cells_1 : decode cX4_cells 1 = .ok (.istore_n 2, 1) := by decide +kernel
theorem dX4_cells_2 : decode cX4_cells 2 = .ok (.iconst 0, 1) := by decide +kernel
theorem dX4_cells_3 : decode cX4_cells 3 = .ok (.istore_n 3, 1) := by decide +kernel
theorem dX4_cells_4 : decode cX4_cells 4 = .ok (.iload_n 3, 1) := by decide +kernel
theorem dX4_cells_5 : decode cX4_cells 5 = .ok (.bipush 32, 2) := by decide +kernel
theorem dX4_cells_7 : decode cX4_cells 7 = .ok (.if_icmp .ge 26, 3) := by decide +kernel
theorem dX4_cells_10 : decode cX4_cells 10 = .ok (.iload_n 2, 1) := by decide +kernel
theorem dX4_cells_11 : decode cX4_cells 11 = .ok (.aload_n 0, 1) := by decide +kernel
theorem dX4_cells_12 : decode cX4_cells 12 = .ok (.iload_n 1, 1) := by decide +kernel
theorem dX4_cells_13 : decode cX4_cells 13 = .ok (.iload_n 3, 1) := by decide +kernel
theorem dX4_cells_14 : decode cX4_cells 14 = .ok (.invokevirtual 27, 3) := by decide +kernel
theorem dX4_cells_17 : decode cX4_cells 17 = .ok (.ifCond .le 7, 3) := by decide +kernel
theorem dX4_cells_20 : decode cX4_cells 20 = .ok (.iconst 1, 1) := by decide +kernel
theorem dX4_cells_21 : decode cX4_cells 21 = .ok (.goto 4, 3) := by decide +kernel
theorem dX4_cells_24 : decode cX4_cells 24 = .ok (.iconst 0, 1) := by decide +kernel
theorem dX4_cells_25 : decode cX4_cells 25 = .ok (.iadd, 1) := by decide +kernel
theorem dX4_cells_26 : decode cX4_cells 26 = .ok (.istore_n 2, 1) := by decide +kernel
theorem dX4_cells_27 : decode cX4_cells 27 = .ok (.iinc 3 1, 3) := by decide +kernel
theorem dX4_cells_30 : decode cX4_cells 30 = .ok (.goto (-26), 3) := by decide +kernel
theorem dX4_cells_33 : decode cX4_cells 33 = .ok (.iload_n 2, 1) := by decide +kernel
theorem dX4_cells_34 : decode cX4_cells 34 = .ok (.ireturn, 1) := by decide +kernel
theorem dX4_taken_0 : decode cX4_taken 0 = .ok (.iconst 0, 1) := by decide +kernel
theorem dX4_taken_1 : decode cX4_taken 1 = .ok (.istore_n 2, 1) := by decide +kernel
theorem dX4_taken_2 : decode cX4_taken 2 = .ok (.iconst 0, 1) := by decide +kernel
theorem dX4_taken_3 : decode cX4_taken 3 = .ok (.istore_n 3, 1) := by decide +kernel
theorem dX4_taken_4 : decode cX4_taken 4 = .ok (.iload_n 3, 1) := by decide +kernel
theorem dX4_taken_5 : decode cX4_taken 5 = .ok (.bipush 32, 2) := by decide +kernel
theorem dX4_taken_7 : decode cX4_taken 7 = .ok (.if_icmp .ge 18, 3) := by decide +kernel
theorem dX4_taken_10 : decode cX4_taken 10 = .ok (.iload_n 2, 1) := by decide +kernel
theorem dX4_taken_11 : decode cX4_taken 11 = .ok (.aload_n 0, 1) := by decide +kernel
theorem dX4_taken_12 : decode cX4_taken 12 = .ok (.iload_n 1, 1) := by decide +kernel
theorem dX4_taken_13 : decode cX4_taken 13 = .ok (.iload_n 3, 1) := by decide +kernel
theorem dX4_taken_14 : decode cX4_taken 14 = .ok (.invokevirtual 27, 3) := by decide +kernel
theorem dX4_taken_17 : decode cX4_taken 17 = .ok (.iadd, 1) := by decide +kernel
theorem dX4_taken_18 : decode cX4_taken 18 = .ok (.istore_n 2, 1) := by decide +kernel
theorem dX4_taken_19 : decode cX4_taken 19 = .ok (.iinc 3 1, 3) := by decide +kernel
theorem dX4_taken_22 : decode cX4_taken 22 = .ok (.goto (-18), 3) := by decide +kernel
theorem dX4_taken_25 : decode cX4_taken 25 = .ok (.iload_n 2, 1) := by decide +kernel
theorem dX4_taken_26 : decode cX4_taken 26 = .ok (.ireturn, 1) := by decide +kernel
theorem dX4_room_0 : decode cX4_room 0 = .ok (.sipush 248, 3) := by decide +kernel
theorem dX4_room_3 : decode cX4_room 3 = .ok (.iconst 4, 1) := by decide +kernel
theorem dX4_room_4 : decode cX4_room 4 = .ok (.aload_n 0, 1) := by decide +kernel
theorem dX4_room_5 : decode cX4_room 5 = .ok (.iload_n 1, 1) := by decide +kernel
theorem dX4_room_6 : decode cX4_room 6 = .ok (.invokevirtual 31, 3) := by decide +kernel
theorem dX4_room_9 : decode cX4_room 9 = .ok (.imul, 1) := by decide +kernel
theorem dX4_room_10 : decode cX4_room 10 = .ok (.isub, 1) := by decide +kernel
theorem dX4_room_11 : decode cX4_room 11 = .ok (.aload_n 0, 1) := by decide +kernel
theorem dX4_room_12 : decode cX4_room 12 = .ok (.iload_n 1, 1) := by decide +kernel
theorem dX4_room_13 : decode cX4_room 13 = .ok (.invokevirtual 35, 3) := by decide +kernel
theorem dX4_room_16 : decode cX4_room 16 = .ok (.isub, 1) := by decide +kernel
theorem dX4_room_17 : decode cX4_room 17 = .ok (.ireturn, 1) := by decide +kernel
theorem dX4_putCell_0 : decode cX4_putCell 0 = .ok (.aload_n 0, 1) := by decide +kernel
theorem dX4_putCell_1 : decode cX4_putCell 1 = .ok (.iload_n 1, 1) := by decide +kernel
theorem dX4_putCell_2 : decode cX4_putCell 2 = .ok (.iload_n 2, 1) := by decide +kernel
theorem dX4_putCell_3 : decode cX4_putCell 3 = .ok (.invokevirtual 27, 3) := by decide +kernel
theorem dX4_putCell_6 : decode cX4_putCell 6 = .ok (.istore 5, 2) := by decide +kernel
theorem dX4_putCell_8 : decode cX4_putCell 8 = .ok (.aload_n 0, 1) := by decide +kernel
theorem dX4_putCell_9 : decode cX4_putCell 9 = .ok (.getfield 7, 3) := by decide +kernel
theorem dX4_putCell_12 : decode cX4_putCell 12 = .ok (.bipush 96, 2) := by decide +kernel
theorem dX4_putCell_14 : decode cX4_putCell 14 = .ok (.iload_n 1, 1) := by decide +kernel
theorem dX4_putCell_15 : decode cX4_putCell 15 = .ok (.iadd, 1) := by decide +kernel
theorem dX4_putCell_16 : decode cX4_putCell 16 = .ok (.iaload, 1) := by decide +kernel
theorem dX4_putCell_17 : decode cX4_putCell 17 = .ok (.istore 6, 2) := by decide +kernel
theorem dX4_putCell_19 : decode cX4_putCell 19 = .ok (.aload_n 0, 1) := by decide +kernel
theorem dX4_putCell_20 : decode cX4_putCell 20 = .ok (.getfield 7, 3) := by decide +kernel
theorem dX4_putCell_23 : decode cX4_putCell 23 = .ok (.iload_n 1, 1) := by decide +kernel
theorem dX4_putCell_24 : decode cX4_putCell 24 = .ok (.iaload, 1) := by decide +kernel
theorem dX4_putCell_25 : decode cX4_putCell 25 = .ok (.iconst 1, 1) := by decide +kernel
theorem dX4_putCell_26 : decode cX4_putCell 26 = .ok (.if_icmp .eq 13, 3) := by decide +kernel
theorem dX4_putCell_29 : decode cX4_putCell 29 = .ok (.aload_n 0, 1) := by decide +kernel
theorem dX4_putCell_30 : decode cX4_putCell 30 = .ok (.getfield 7, 3) := by decide +kernel
theorem dX4_putCell_33 : decode cX4_putCell 33 = .ok (.iload_n 1, 1) := by decide +kernel
theorem dX4_putCell_34 : decode cX4_putCell 34 = .ok (.iconst 1, 1) := by decide +kernel
theorem dX4_putCell_35 : decode cX4_putCell 35 = .ok (.iastore, 1) := by decide +kernel
theorem dX4_putCell_36 : decode cX4_putCell 36 = .ok (.iconst 0, 1) := by decide +kernel
theorem dX4_putCell_37 : decode cX4_putCell 37 = .ok (.istore 6, 2) := by decide +kernel
theorem dX4_putCell_39 : decode cX4_putCell 39 = .ok (.iload 5, 2) := by decide +kernel
theorem dX4_putCell_41 : decode cX4_putCell 41 = .ok (.ifCond .eq 9, 3) := by decide +kernel
theorem dX4_putCell_44 : decode cX4_putCell 44 = .ok (.iload_n 3, 1) := by decide +kernel
theorem dX4_putCell_45 : decode cX4_putCell 45 = .ok (.iload 5, 2) := by decide +kernel
theorem dX4_putCell_47 : decode cX4_putCell 47 = .ok (.if_icmp .le 77, 3) := by decide +kernel
theorem dX4_putCell_50 : decode cX4_putCell 50 = .ok (.aload_n 0, 1) := by decide +kernel
theorem dX4_putCell_51 : decode cX4_putCell 51 = .ok (.iload_n 1, 1) := by decide +kernel
theorem dX4_putCell_52 : decode cX4_putCell 52 = .ok (.invokevirtual 31, 3) := by decide +kernel
theorem dX4_putCell_55 : decode cX4_putCell 55 = .ok (.iload_n 2, 1) := by decide +kernel
theorem dX4_putCell_56 : decode cX4_putCell 56 = .ok (.if_icmp .le 11, 3) := by decide +kernel
theorem dX4_putCell_59 : decode cX4_putCell 59 = .ok (.aload_n 0, 1) := by decide +kernel
theorem dX4_putCell_60 : decode cX4_putCell 60 = .ok (.iload_n 1, 1) := by decide +kernel
theorem dX4_putCell_61 : decode cX4_putCell 61 = .ok (.invokevirtual 31, 3) := by decide +kernel
theorem dX4_putCell_64 : decode cX4_putCell 64 = .ok (.goto 6, 3) := by decide +kernel
theorem dX4_putCell_67 : decode cX4_putCell 67 = .ok (.iload_n 2, 1) := by decide +kernel
theorem dX4_putCell_68 : decode cX4_putCell 68 = .ok (.iconst 1, 1) := by decide +kernel
theorem dX4_putCell_69 : decode cX4_putCell 69 = .ok (.iadd, 1) := by decide +kernel
theorem dX4_putCell_70 : decode cX4_putCell 70 = .ok (.istore 7, 2) := by decide +kernel
theorem dX4_putCell_72 : decode cX4_putCell 72 = .ok (.sipush 248, 3) := by decide +kernel
theorem dX4_putCell_75 : decode cX4_putCell 75 = .ok (.iconst 4, 1) := by decide +kernel
theorem dX4_putCell_76 : decode cX4_putCell 76 = .ok (.iload 7, 2) := by decide +kernel
theorem dX4_putCell_78 : decode cX4_putCell 78 = .ok (.imul, 1) := by decide +kernel
theorem dX4_putCell_79 : decode cX4_putCell 79 = .ok (.isub, 1) := by decide +kernel
theorem dX4_putCell_80 : decode cX4_putCell 80 = .ok (.iload 6, 2) := by decide +kernel
theorem dX4_putCell_82 : decode cX4_putCell 82 = .ok (.isub, 1) := by decide +kernel
theorem dX4_putCell_83 : decode cX4_putCell 83 = .ok (.iload_n 3, 1) := by decide +kernel
theorem dX4_putCell_84 : decode cX4_putCell 84 = .ok (.if_icmp .ge 34, 3) := by decide +kernel
theorem dX4_putCell_87 : decode cX4_putCell 87 = .ok (.aload_n 0, 1) := by decide +kernel
theorem dX4_putCell_88 : decode cX4_putCell 88 = .ok (.iload_n 1, 1) := by decide +kernel
theorem dX4_putCell_89 : decode cX4_putCell 89 = .ok (.invokevirtual 35, 3) := by decide +kernel
theorem dX4_putCell_92 : decode cX4_putCell 92 = .ok (.iload 5, 2) := by decide +kernel
theorem dX4_putCell_94 : decode cX4_putCell 94 = .ok (.isub, 1) := by decide +kernel
theorem dX4_putCell_95 : decode cX4_putCell 95 = .ok (.istore 6, 2) := by decide +kernel
theorem dX4_putCell_97 : decode cX4_putCell 97 = .ok (.aload_n 0, 1) := by decide +kernel
theorem dX4_putCell_98 : decode cX4_putCell 98 = .ok (.dup, 1) := by decide +kernel
theorem dX4_putCell_99 : decode cX4_putCell 99 = .ok (.getfield 38, 3) := by decide +kernel
theorem dX4_putCell_102 : decode cX4_putCell 102 = .ok (.aload_n 0, 1) := by decide +kernel
theorem dX4_putCell_103 : decode cX4_putCell 103 = .ok (.getfield 41, 3) := by decide +kernel
theorem dX4_putCell_106 : decode cX4_putCell 106 = .ok (.ifCond .eq 7, 3) := by decide +kernel
theorem dX4_putCell_109 : decode cX4_putCell 109 = .ok (.iconst 0, 1) := by decide +kernel
theorem dX4_putCell_110 : decode cX4_putCell 110 = .ok (.goto 4, 3) := by decide +kernel
theorem dX4_putCell_113 : decode cX4_putCell 113 = .ok (.iconst 1, 1) := by decide +kernel
theorem dX4_putCell_114 : decode cX4_putCell 114 = .ok (.iadd, 1) := by decide +kernel
theorem dX4_putCell_115 : decode cX4_putCell 115 = .ok (.putfield 38, 3) := by decide +kernel
theorem dX4_putCell_118 : decode cX4_putCell 118 = .ok (.iload 6, 2) := by decide +kernel
theorem dX4_putCell_120 : decode cX4_putCell 120 = .ok (.iload_n 3, 1) := by decide +kernel
theorem dX4_putCell_121 : decode cX4_putCell 121 = .ok (.iadd, 1) := by decide +kernel
theorem dX4_putCell_122 : decode cX4_putCell 122 = .ok (.istore 6, 2) := by decide +kernel
theorem dX4_putCell_124 : decode cX4_putCell 124 = .ok (.aload_n 0, 1) := by decide +kernel
theorem dX4_putCell_125 : decode cX4_putCell 125 = .ok (.getfield 7, 3) := by decide +kernel
theorem dX4_putCell_128 : decode cX4_putCell 128 = .ok (.bipush 96, 2) := by decide +kernel
theorem dX4_putCell_130 : decode cX4_putCell 130 = .ok (.iload_n 1, 1) := by decide +kernel
theorem dX4_putCell_131 : decode cX4_putCell 131 = .ok (.iadd, 1) := by decide +kernel
theorem dX4_putCell_132 : decode cX4_putCell 132 = .ok (.iload 6, 2) := by decide +kernel
theorem dX4_putCell_134 : decode cX4_putCell 134 = .ok (.iastore, 1) := by decide +kernel
theorem dX4_putCell_135 : decode cX4_putCell 135 = .ok (.aload_n 0, 1) := by decide +kernel
theorem dX4_putCell_136 : decode cX4_putCell 136 = .ok (.getfield 7, 3) := by decide +kernel
theorem dX4_putCell_139 : decode cX4_putCell 139 = .ok (.sipush 384, 3) := by decide +kernel
theorem dX4_putCell_142 : decode cX4_putCell 142 = .ok (.bipush 32, 2) := by decide +kernel
theorem dX4_putCell_144 : decode cX4_putCell 144 = .ok (.iload_n 1, 1) := by decide +kernel
theorem dX4_putCell_145 : decode cX4_putCell 145 = .ok (.imul, 1) := by decide +kernel
theorem dX4_putCell_146 : decode cX4_putCell 146 = .ok (.iadd, 1) := by decide +kernel
theorem dX4_putCell_147 : decode cX4_putCell 147 = .ok (.iload_n 2, 1) := by decide +kernel
theorem dX4_putCell_148 : decode cX4_putCell 148 = .ok (.iadd, 1) := by decide +kernel
theorem dX4_putCell_149 : decode cX4_putCell 149 = .ok (.iload_n 3, 1) := by decide +kernel
theorem dX4_putCell_150 : decode cX4_putCell 150 = .ok (.iastore, 1) := by decide +kernel
theorem dX4_putCell_151 : decode cX4_putCell 151 = .ok (.aload_n 0, 1) := by decide +kernel
theorem dX4_putCell_152 : decode cX4_putCell 152 = .ok (.getfield 7, 3) := by decide +kernel
theorem dX4_putCell_155 : decode cX4_putCell 155 = .ok (.sipush 3456, 3) := by decide +kernel
theorem dX4_putCell_158 : decode cX4_putCell 158 = .ok (.bipush 32, 2) := by decide +kernel
theorem dX4_putCell_160 : decode cX4_putCell 160 = .ok (.iload_n 1, 1) := by decide +kernel
theorem dX4_putCell_161 : decode cX4_putCell 161 = .ok (.imul, 1) := by decide +kernel
theorem dX4_putCell_162 : decode cX4_putCell 162 = .ok (.iadd, 1) := by decide +kernel
theorem dX4_putCell_163 : decode cX4_putCell 163 = .ok (.iload_n 2, 1) := by decide +kernel
theorem dX4_putCell_164 : decode cX4_putCell 164 = .ok (.iadd, 1) := by decide +kernel
theorem dX4_putCell_165 : decode cX4_putCell 165 = .ok (.iload 4, 2) := by decide +kernel
theorem dX4_putCell_167 : decode cX4_putCell 167 = .ok (.iastore, 1) := by decide +kernel
theorem dX4_putCell_168 : decode cX4_putCell 168 = .ok (.return_, 1) := by decide +kernel
theorem dX4_takeCell_0 : decode cX4_takeCell 0 = .ok (.aload_n 0, 1) := by decide +kernel
theorem dX4_takeCell_1 : decode cX4_takeCell 1 = .ok (.getfield 7, 3) := by decide +kernel
theorem dX4_takeCell_4 : decode cX4_takeCell 4 = .ok (.sipush 384, 3) := by decide +kernel
theorem dX4_takeCell_7 : decode cX4_takeCell 7 = .ok (.bipush 32, 2) := by decide +kernel
theorem dX4_takeCell_9 : decode cX4_takeCell 9 = .ok (.iload_n 1, 1) := by decide +kernel
theorem dX4_takeCell_10 : decode cX4_takeCell 10 = .ok (.imul, 1) := by decide +kernel
theorem dX4_takeCell_11 : decode cX4_takeCell 11 = .ok (.iadd, 1) := by decide +kernel
theorem dX4_takeCell_12 : decode cX4_takeCell 12 = .ok (.iload_n 2, 1) := by decide +kernel
theorem dX4_takeCell_13 : decode cX4_takeCell 13 = .ok (.iadd, 1) := by decide +kernel
theorem dX4_takeCell_14 : decode cX4_takeCell 14 = .ok (.iconst 0, 1) := by decide +kernel
theorem dX4_takeCell_15 : decode cX4_takeCell 15 = .ok (.iastore, 1) := by decide +kernel
theorem dX4_takeCell_16 : decode cX4_takeCell 16 = .ok (.aload_n 0, 1) := by decide +kernel
theorem dX4_takeCell_17 : decode cX4_takeCell 17 = .ok (.iload_n 1, 1) := by decide +kernel
theorem dX4_takeCell_18 : decode cX4_takeCell 18 = .ok (.invokevirtual 45, 3) := by decide +kernel
theorem dX4_takeCell_21 : decode cX4_takeCell 21 = .ok (.ifCond .ne 20, 3) := by decide +kernel
theorem dX4_takeCell_24 : decode cX4_takeCell 24 = .ok (.aload_n 0, 1) := by decide +kernel
theorem dX4_takeCell_25 : decode cX4_takeCell 25 = .ok (.getfield 7, 3) := by decide +kernel
theorem dX4_takeCell_28 : decode cX4_takeCell 28 = .ok (.iload_n 1, 1) := by decide +kernel
theorem dX4_takeCell_29 : decode cX4_takeCell 29 = .ok (.iconst 0, 1) := by decide +kernel
theorem dX4_takeCell_30 : decode cX4_takeCell 30 = .ok (.iastore, 1) := by decide +kernel
theorem dX4_takeCell_31 : decode cX4_takeCell 31 = .ok (.aload_n 0, 1) := by decide +kernel
theorem dX4_takeCell_32 : decode cX4_takeCell 32 = .ok (.getfield 7, 3) := by decide +kernel
theorem dX4_takeCell_35 : decode cX4_takeCell 35 = .ok (.bipush 96, 2) := by decide +kernel
theorem dX4_takeCell_37 : decode cX4_takeCell 37 = .ok (.iload_n 1, 1) := by decide +kernel
theorem dX4_takeCell_38 : decode cX4_takeCell 38 = .ok (.iadd, 1) := by decide +kernel
theorem dX4_takeCell_39 : decode cX4_takeCell 39 = .ok (.iconst 0, 1) := by decide +kernel
theorem dX4_takeCell_40 : decode cX4_takeCell 40 = .ok (.iastore, 1) := by decide +kernel
theorem dX4_takeCell_41 : decode cX4_takeCell 41 = .ok (.return_, 1) := by decide +kernel
theorem dX4_firstFree_0 : decode cX4_firstFree 0 = .ok (.iconst 0, 1) := by decide +kernel
theorem dX4_firstFree_1 : decode cX4_firstFree 1 = .ok (.istore_n 1, 1) := by decide +kernel
theorem dX4_firstFree_2 : decode cX4_firstFree 2 = .ok (.iload_n 1, 1) := by decide +kernel
theorem dX4_firstFree_3 : decode cX4_firstFree 3 = .ok (.bipush 96, 2) := by decide +kernel
theorem dX4_firstFree_5 : decode cX4_firstFree 5 = .ok (.if_icmp .ge 20, 3) := by decide +kernel
theorem dX4_firstFree_8 : decode cX4_firstFree 8 = .ok (.aload_n 0, 1) := by decide +kernel
theorem dX4_firstFree_9 : decode cX4_firstFree 9 = .ok (.getfield 7, 3) := by decide +kernel
theorem dX4_firstFree_12 : decode cX4_firstFree 12 = .ok (.iload_n 1, 1) := by decide +kernel
theorem dX4_firstFree_13 : decode cX4_firstFree 13 = .ok (.iaload, 1) := by decide +kernel
theorem dX4_firstFree_14 : decode cX4_firstFree 14 = .ok (.ifCond .ne 5, 3) := by decide +kernel
theorem dX4_firstFree_17 : decode cX4_firstFree 17 = .ok (.iload_n 1, 1) := by decide +kernel
theorem dX4_firstFree_18 : decode cX4_firstFree 18 = .ok (.ireturn, 1) := by decide +kernel
theorem dX4_firstFree_19 : decode cX4_firstFree 19 = .ok (.iinc 1 1, 3) := by decide +kernel
theorem dX4_firstFree_22 : decode cX4_firstFree 22 = .ok (.goto (-20), 3) := by decide +kernel
theorem dX4_firstFree_25 : decode cX4_firstFree 25 = .ok (.iconst (-1), 1) := by decide +kernel
theorem dX4_firstFree_26 : decode cX4_firstFree 26 = .ok (.ireturn, 1) := by decide +kernel
theorem dX4_freePages_0 : decode cX4_freePages 0 = .ok (.iconst 0, 1) := by decide +kernel
theorem dX4_freePages_1 : decode cX4_freePages 1 = .ok (.istore_n 1, 1) := by decide +kernel
theorem dX4_freePages_2 : decode cX4_freePages 2 = .ok (.iconst 0, 1) := by decide +kernel
theorem dX4_freePages_3 : decode cX4_freePages 3 = .ok (.istore_n 2, 1) := by decide +kernel
theorem dX4_freePages_4 : decode cX4_freePages 4 = .ok (.iload_n 2, 1) := by decide +kernel
theorem dX4_freePages_5 : decode cX4_freePages 5 = .ok (.bipush 96, 2) := by decide +kernel
theorem dX4_freePages_7 : decode cX4_freePages 7 = .ok (.if_icmp .ge 26, 3) := by decide +kernel
theorem dX4_freePages_10 : decode cX4_freePages 10 = .ok (.iload_n 1, 1) := by decide +kernel
theorem dX4_freePages_11 : decode cX4_freePages 11 = .ok (.aload_n 0, 1) := by decide +kernel
theorem dX4_freePages_12 : decode cX4_freePages 12 = .ok (.getfield 7, 3) := by decide +kernel
theorem dX4_freePages_15 : decode cX4_freePages 15 = .ok (.iload_n 2, 1) := by decide +kernel
theorem dX4_freePages_16 : decode cX4_freePages 16 = .ok (.iaload, 1) := by decide +kernel
theorem dX4_freePages_17 : decode cX4_freePages 17 = .ok (.ifCond .ne 7, 3) := by decide +kernel
theorem dX4_freePages_20 : decode cX4_freePages 20 = .ok (.iconst 1, 1) := by decide +kernel
theorem dX4_freePages_21 : decode cX4_freePages 21 = .ok (.goto 4, 3) := by decide +kernel
theorem dX4_freePages_24 : decode cX4_freePages 24 = .ok (.iconst 0, 1) := by decide +kernel
theorem dX4_freePages_25 : decode cX4_freePages 25 = .ok (.iadd, 1) := by decide +kernel
theorem dX4_freePages_26 : decode cX4_freePages 26 = .ok (.istore_n 1, 1) := by decide +kernel
theorem dX4_freePages_27 : decode cX4_freePages 27 = .ok (.iinc 2 1, 3) := by decide +kernel
theorem dX4_freePages_30 : decode cX4_freePages 30 = .ok (.goto (-26), 3) := by decide +kernel
theorem dX4_freePages_33 : decode cX4_freePages 33 = .ok (.iload_n 1, 1) := by decide +kernel
theorem dX4_freePages_34 : decode cX4_freePages 34 = .ok (.ireturn, 1) := by decide +kernel
theorem dX4_placeFor_0 : decode cX4_placeFor 0 = .ok (.iload_n 1, 1) := by decide +kernel
theorem dX4_placeFor_1 : decode cX4_placeFor 1 = .ok (.iconst 4, 1) := by decide +kernel
theorem dX4_placeFor_2 : decode cX4_placeFor 2 = .ok (.iadd, 1) := by decide +kernel
theorem dX4_placeFor_3 : decode cX4_placeFor 3 = .ok (.istore 4, 2) := by decide +kernel
theorem dX4_placeFor_5 : decode cX4_placeFor 5 = .ok (.iconst (-1), 1) := by decide +kernel
theorem dX4_placeFor_6 : decode cX4_placeFor 6 = .ok (.istore 5, 2) := by decide +kernel
theorem dX4_placeFor_8 : decode cX4_placeFor 8 = .ok (.iconst (-1), 1) := by decide +kernel
theorem dX4_placeFor_9 : decode cX4_placeFor 9 = .ok (.istore 6, 2) := by decide +kernel
theorem dX4_placeFor_11 : decode cX4_placeFor 11 = .ok (.bipush 95, 2) := by decide +kernel
theorem dX4_placeFor_13 : decode cX4_placeFor 13 = .ok (.istore 7, 2) := by decide +kernel
theorem dX4_placeFor_15 : decode cX4_placeFor 15 = .ok (.iload 7, 2) := by decide +kernel
theorem dX4_placeFor_17 : decode cX4_placeFor 17 = .ok (.ifCond .lt 106, 3) := by decide +kernel
theorem dX4_placeFor_20 : decode cX4_placeFor 20 = .ok (.aload_n 0, 1) := by decide +kernel
theorem dX4_placeFor_21 : decode cX4_placeFor 21 = .ok (.getfield 7, 3) := by decide +kernel
theorem dX4_placeFor_24 : decode cX4_placeFor 24 = .ok (.iload 7, 2) := by decide +kernel
theorem dX4_placeFor_26 : decode cX4_placeFor 26 = .ok (.iaload, 1) := by decide +kernel
theorem dX4_placeFor_27 : decode cX4_placeFor 27 = .ok (.iconst 1, 1) := by decide +kernel
theorem dX4_placeFor_28 : decode cX4_placeFor 28 = .ok (.if_icmp .ne 89, 3) := by decide +kernel
theorem dX4_placeFor_31 : decode cX4_placeFor 31 = .ok (.iload 7, 2) := by decide +kernel
theorem dX4_placeFor_33 : decode cX4_placeFor 33 = .ok (.iload_n 2, 1) := by decide +kernel
theorem dX4_placeFor_34 : decode cX4_placeFor 34 = .ok (.if_icmp .eq 83, 3) := by decide +kernel
theorem dX4_placeFor_37 : decode cX4_placeFor 37 = .ok (.iload 7, 2) := by decide +kernel
theorem dX4_placeFor_39 : decode cX4_placeFor 39 = .ok (.iload_n 3, 1) := by decide +kernel
theorem dX4_placeFor_40 : decode cX4_placeFor 40 = .ok (.if_icmp .eq 77, 3) := by decide +kernel
theorem dX4_placeFor_43 : decode cX4_placeFor 43 = .ok (.aload_n 0, 1) := by decide +kernel
theorem dX4_placeFor_44 : decode cX4_placeFor 44 = .ok (.iload 7, 2) := by decide +kernel
theorem dX4_placeFor_46 : decode cX4_placeFor 46 = .ok (.invokevirtual 45, 3) := by decide +kernel
theorem dX4_placeFor_49 : decode cX4_placeFor 49 = .ok (.bipush 32, 2) := by decide +kernel
theorem dX4_placeFor_51 : decode cX4_placeFor 51 = .ok (.if_icmp .ne 6, 3) := by decide +kernel
theorem dX4_placeFor_54 : decode cX4_placeFor 54 = .ok (.goto 63, 3) := by decide +kernel
theorem dX4_placeFor_57 : decode cX4_placeFor 57 = .ok (.aload_n 0, 1) := by decide +kernel
theorem dX4_placeFor_58 : decode cX4_placeFor 58 = .ok (.iload 7, 2) := by decide +kernel
theorem dX4_placeFor_60 : decode cX4_placeFor 60 = .ok (.invokevirtual 48, 3) := by decide +kernel
theorem dX4_placeFor_63 : decode cX4_placeFor 63 = .ok (.bipush 31, 2) := by decide +kernel
theorem dX4_placeFor_65 : decode cX4_placeFor 65 = .ok (.idiv, 1) := by decide +kernel
theorem dX4_placeFor_66 : decode cX4_placeFor 66 = .ok (.istore 8, 2) := by decide +kernel
theorem dX4_placeFor_68 : decode cX4_placeFor 68 = .ok (.bipush 31, 2) := by decide +kernel
theorem dX4_placeFor_70 : decode cX4_placeFor 70 = .ok (.iload 8, 2) := by decide +kernel
theorem dX4_placeFor_72 : decode cX4_placeFor 72 = .ok (.imul, 1) := by decide +kernel
theorem dX4_placeFor_73 : decode cX4_placeFor 73 = .ok (.iload 4, 2) := by decide +kernel
theorem dX4_placeFor_75 : decode cX4_placeFor 75 = .ok (.if_icmp .lt 27, 3) := by decide +kernel
theorem dX4_placeFor_78 : decode cX4_placeFor 78 = .ok (.iload 5, 2) := by decide +kernel
theorem dX4_placeFor_80 : decode cX4_placeFor 80 = .ok (.iconst (-1), 1) := by decide +kernel
theorem dX4_placeFor_81 : decode cX4_placeFor 81 = .ok (.if_icmp .eq 17, 3) := by decide +kernel
theorem dX4_placeFor_84 : decode cX4_placeFor 84 = .ok (.iload 8, 2) := by decide +kernel
theorem dX4_placeFor_86 : decode cX4_placeFor 86 = .ok (.aload_n 0, 1) := by decide +kernel
theorem dX4_placeFor_87 : decode cX4_placeFor 87 = .ok (.iload 5, 2) := by decide +kernel
theorem dX4_placeFor_89 : decode cX4_placeFor 89 = .ok (.invokevirtual 48, 3) := by decide +kernel
theorem dX4_placeFor_92 : decode cX4_placeFor 92 = .ok (.bipush 31, 2) := by decide +kernel
theorem dX4_placeFor_94 : decode cX4_placeFor 94 = .ok (.idiv, 1) := by decide +kernel
theorem dX4_placeFor_95 : decode cX4_placeFor 95 = .ok (.if_icmp .gt 7, 3) := by decide +kernel
theorem dX4_placeFor_98 : decode cX4_placeFor 98 = .ok (.iload 7, 2) := by decide +kernel
theorem dX4_placeFor_100 : decode cX4_placeFor 100 = .ok (.istore 5, 2) := by decide +kernel
theorem dX4_placeFor_102 : decode cX4_placeFor 102 = .ok (.aload_n 0, 1) := by decide +kernel
theorem dX4_placeFor_103 : decode cX4_placeFor 103 = .ok (.iload 7, 2) := by decide +kernel
theorem dX4_placeFor_105 : decode cX4_placeFor 105 = .ok (.invokevirtual 48, 3) := by decide +kernel
theorem dX4_placeFor_108 : decode cX4_placeFor 108 = .ok (.iload 4, 2) := by decide +kernel
theorem dX4_placeFor_110 : decode cX4_placeFor 110 = .ok (.if_icmp .lt 7, 3) := by decide +kernel
theorem dX4_placeFor_113 : decode cX4_placeFor 113 = .ok (.iload 7, 2) := by decide +kernel
theorem dX4_placeFor_115 : decode cX4_placeFor 115 = .ok (.istore 6, 2) := by decide +kernel
theorem dX4_placeFor_117 : decode cX4_placeFor 117 = .ok (.iinc 7 (-1), 3) := by decide +kernel
theorem dX4_placeFor_120 : decode cX4_placeFor 120 = .ok (.goto (-105), 3) := by decide +kernel
theorem dX4_placeFor_123 : decode cX4_placeFor 123 = .ok (.iload 5, 2) := by decide +kernel
theorem dX4_placeFor_125 : decode cX4_placeFor 125 = .ok (.iconst (-1), 1) := by decide +kernel
theorem dX4_placeFor_126 : decode cX4_placeFor 126 = .ok (.if_icmp .eq 8, 3) := by decide +kernel
theorem dX4_placeFor_129 : decode cX4_placeFor 129 = .ok (.iload 5, 2) := by decide +kernel
theorem dX4_placeFor_131 : decode cX4_placeFor 131 = .ok (.goto 18, 3) := by decide +kernel
theorem dX4_placeFor_134 : decode cX4_placeFor 134 = .ok (.iload 6, 2) := by decide +kernel
theorem dX4_placeFor_136 : decode cX4_placeFor 136 = .ok (.iconst (-1), 1) := by decide +kernel
theorem dX4_placeFor_137 : decode cX4_placeFor 137 = .ok (.if_icmp .eq 8, 3) := by decide +kernel
theorem dX4_placeFor_140 : decode cX4_placeFor 140 = .ok (.iload 6, 2) := by decide +kernel
theorem dX4_placeFor_142 : decode cX4_placeFor 142 = .ok (.goto 7, 3) := by decide +kernel
theorem dX4_placeFor_145 : decode cX4_placeFor 145 = .ok (.aload_n 0, 1) := by decide +kernel
theorem dX4_placeFor_146 : decode cX4_placeFor 146 = .ok (.invokevirtual 51, 3) := by decide +kernel
theorem dX4_placeFor_149 : decode cX4_placeFor 149 = .ok (.ireturn, 1) := by decide +kernel
theorem dX4_slotIn_0 : decode cX4_slotIn 0 = .ok (.iconst 0, 1) := by decide +kernel
theorem dX4_slotIn_1 : decode cX4_slotIn 1 = .ok (.istore_n 2, 1) := by decide +kernel
theorem dX4_slotIn_2 : decode cX4_slotIn 2 = .ok (.aload_n 0, 1) := by decide +kernel
theorem dX4_slotIn_3 : decode cX4_slotIn 3 = .ok (.iload_n 1, 1) := by decide +kernel
theorem dX4_slotIn_4 : decode cX4_slotIn 4 = .ok (.iload_n 2, 1) := by decide +kernel
theorem dX4_slotIn_5 : decode cX4_slotIn 5 = .ok (.invokevirtual 27, 3) := by decide +kernel
theorem dX4_slotIn_8 : decode cX4_slotIn 8 = .ok (.ifCond .le 9, 3) := by decide +kernel
theorem dX4_slotIn_11 : decode cX4_slotIn 11 = .ok (.iinc 2 1, 3) := by decide +kernel
theorem dX4_slotIn_14 : decode cX4_slotIn 14 = .ok (.goto (-12), 3) := by decide +kernel
theorem dX4_slotIn_17 : decode cX4_slotIn 17 = .ok (.iload_n 2, 1) := by decide +kernel
theorem dX4_slotIn_18 : decode cX4_slotIn 18 = .ok (.ireturn, 1) := by decide +kernel
theorem dX4_cellSize_0 : decode cX4_cellSize 0 = .ok (.iload_n 0, 1) := by decide +kernel
theorem dX4_cellSize_1 : decode cX4_cellSize 1 = .ok (.bipush 100, 2) := by decide +kernel
theorem dX4_cellSize_3 : decode cX4_cellSize 3 = .ok (.if_icmp .le 8, 3) := by decide +kernel
theorem dX4_cellSize_6 : decode cX4_cellSize 6 = .ok (.bipush 9, 2) := by decide +kernel
theorem dX4_cellSize_8 : decode cX4_cellSize 8 = .ok (.goto 6, 3) := by decide +kernel
theorem dX4_cellSize_11 : decode cX4_cellSize 11 = .ok (.iload_n 0, 1) := by decide +kernel
theorem dX4_cellSize_12 : decode cX4_cellSize 12 = .ok (.iconst 1, 1) := by decide +kernel
theorem dX4_cellSize_13 : decode cX4_cellSize 13 = .ok (.iadd, 1) := by decide +kernel
theorem dX4_cellSize_14 : decode cX4_cellSize 14 = .ok (.iload_n 1, 1) := by decide +kernel
theorem dX4_cellSize_15 : decode cX4_cellSize 15 = .ok (.ifCond .eq 7, 3) := by decide +kernel
theorem dX4_cellSize_18 : decode cX4_cellSize 18 = .ok (.iconst 4, 1) := by decide +kernel
theorem dX4_cellSize_19 : decode cX4_cellSize 19 = .ok (.goto 4, 3) := by decide +kernel
theorem dX4_cellSize_22 : decode cX4_cellSize 22 = .ok (.iconst 0, 1) := by decide +kernel
theorem dX4_cellSize_23 : decode cX4_cellSize 23 = .ok (.iadd, 1) := by decide +kernel
theorem dX4_cellSize_24 : decode cX4_cellSize 24 = .ok (.istore_n 2, 1) := by decide +kernel
theorem dX4_cellSize_25 : decode cX4_cellSize 25 = .ok (.iload_n 2, 1) := by decide +kernel
theorem dX4_cellSize_26 : decode cX4_cellSize 26 = .ok (.iconst 5, 1) := by decide +kernel
theorem dX4_cellSize_27 : decode cX4_cellSize 27 = .ok (.if_icmp .ge 7, 3) := by decide +kernel
theorem dX4_cellSize_30 : decode cX4_cellSize 30 = .ok (.iconst 5, 1) := by decide +kernel
theorem dX4_cellSize_31 : decode cX4_cellSize 31 = .ok (.goto 4, 3) := by decide +kernel
theorem dX4_cellSize_34 : decode cX4_cellSize 34 = .ok (.iload_n 2, 1) := by decide +kernel
theorem dX4_cellSize_35 : decode cX4_cellSize 35 = .ok (.ireturn, 1) := by decide +kernel
theorem dX4_chainSize_0 : decode cX4_chainSize 0 = .ok (.iload_n 0, 1) := by decide +kernel
theorem dX4_chainSize_1 : decode cX4_chainSize 1 = .ok (.bipush 100, 2) := by decide +kernel
theorem dX4_chainSize_3 : decode cX4_chainSize 3 = .ok (.if_icmp .le 17, 3) := by decide +kernel
theorem dX4_chainSize_6 : decode cX4_chainSize 6 = .ok (.iload_n 0, 1) := by decide +kernel
theorem dX4_chainSize_7 : decode cX4_chainSize 7 = .ok (.sipush 240, 3) := by decide +kernel
theorem dX4_chainSize_10 : decode cX4_chainSize 10 = .ok (.iadd, 1) := by decide +kernel
theorem dX4_chainSize_11 : decode cX4_chainSize 11 = .ok (.iconst 1, 1) := by decide +kernel
theorem dX4_chainSize_12 : decode cX4_chainSize 12 = .ok (.isub, 1) := by decide +kernel
theorem dX4_chainSize_13 : decode cX4_chainSize 13 = .ok (.sipush 240, 3) := by decide +kernel
theorem dX4_chainSize_16 : decode cX4_chainSize 16 = .ok (.idiv, 1) := by decide +kernel
theorem dX4_chainSize_17 : decode cX4_chainSize 17 = .ok (.goto 4, 3) := by decide +kernel
theorem dX4_chainSize_20 : decode cX4_chainSize 20 = .ok (.iconst 0, 1) := by decide +kernel
theorem dX4_chainSize_21 : decode cX4_chainSize 21 = .ok (.ireturn, 1) := by decide +kernel
theorem dX4_takeChain_0 : decode cX4_takeChain 0 = .ok (.iconst (-1), 1) := by decide +kernel
theorem dX4_takeChain_1 : decode cX4_takeChain 1 = .ok (.istore_n 2, 1) := by decide +kernel
theorem dX4_takeChain_2 : decode cX4_takeChain 2 = .ok (.iconst (-1), 1) := by decide +kernel
theorem dX4_takeChain_3 : decode cX4_takeChain 3 = .ok (.istore_n 3, 1) := by decide +kernel
theorem dX4_takeChain_4 : decode cX4_takeChain 4 = .ok (.iconst 0, 1) := by decide +kernel
theorem dX4_takeChain_5 : decode cX4_takeChain 5 = .ok (.istore 4, 2) := by decide +kernel
theorem dX4_takeChain_7 : decode cX4_takeChain 7 = .ok (.iload 4, 2) := by decide +kernel
theorem dX4_takeChain_9 : decode cX4_takeChain 9 = .ok (.iload_n 1, 1) := by decide +kernel
theorem dX4_takeChain_10 : decode cX4_takeChain 10 = .ok (.invokestatic 55, 3) := by decide +kernel
theorem dX4_takeChain_13 : decode cX4_takeChain 13 = .ok (.if_icmp .ge 98, 3) := by decide +kernel
theorem dX4_takeChain_16 : decode cX4_takeChain 16 = .ok (.aload_n 0, 1) := by decide +kernel
theorem dX4_takeChain_17 : decode cX4_takeChain 17 = .ok (.invokevirtual 51, 3) := by decide +kernel
theorem dX4_takeChain_20 : decode cX4_takeChain 20 = .ok (.istore 5, 2) := by decide +kernel
theorem dX4_takeChain_22 : decode cX4_takeChain 22 = .ok (.aload_n 0, 1) := by decide +kernel
theorem dX4_takeChain_23 : decode cX4_takeChain 23 = .ok (.getfield 7, 3) := by decide +kernel
theorem dX4_takeChain_26 : decode cX4_takeChain 26 = .ok (.iload 5, 2) := by decide +kernel
theorem dX4_takeChain_28 : decode cX4_takeChain 28 = .ok (.iconst 2, 1) := by decide +kernel
theorem dX4_takeChain_29 : decode cX4_takeChain 29 = .ok (.iastore, 1) := by decide +kernel
theorem dX4_takeChain_30 : decode cX4_takeChain 30 = .ok (.aload_n 0, 1) := by decide +kernel
theorem dX4_takeChain_31 : decode cX4_takeChain 31 = .ok (.getfield 7, 3) := by decide +kernel
theorem dX4_takeChain_34 : decode cX4_takeChain 34 = .ok (.sipush 192, 3) := by decide +kernel
theorem dX4_takeChain_37 : decode cX4_takeChain 37 = .ok (.iload 5, 2) := by decide +kernel
theorem dX4_takeChain_39 : decode cX4_takeChain 39 = .ok (.iadd, 1) := by decide +kernel
theorem dX4_takeChain_40 : decode cX4_takeChain 40 = .ok (.iconst (-1), 1) := by decide +kernel
theorem dX4_takeChain_41 : decode cX4_takeChain 41 = .ok (.iastore, 1) := by decide +kernel
theorem dX4_takeChain_42 : decode cX4_takeChain 42 = .ok (.iload_n 1, 1) := by decide +kernel
theorem dX4_takeChain_43 : decode cX4_takeChain 43 = .ok (.sipush 240, 3) := by decide +kernel
theorem dX4_takeChain_46 : decode cX4_takeChain 46 = .ok (.iload 4, 2) := by decide +kernel
theorem dX4_takeChain_48 : decode cX4_takeChain 48 = .ok (.imul, 1) := by decide +kernel
theorem dX4_takeChain_49 : decode cX4_takeChain 49 = .ok (.isub, 1) := by decide +kernel
theorem dX4_takeChain_50 : decode cX4_takeChain 50 = .ok (.istore 6, 2) := by decide +kernel
theorem dX4_takeChain_52 : decode cX4_takeChain 52 = .ok (.aload_n 0, 1) := by decide +kernel
theorem dX4_takeChain_53 : decode cX4_takeChain 53 = .ok (.getfield 7, 3) := by decide +kernel
theorem dX4_takeChain_56 : decode cX4_takeChain 56 = .ok (.sipush 288, 3) := by decide +kernel
theorem dX4_takeChain_59 : decode cX4_takeChain 59 = .ok (.iload 5, 2) := by decide +kernel
theorem dX4_takeChain_61 : decode cX4_takeChain 61 = .ok (.iadd, 1) := by decide +kernel
theorem dX4_takeChain_62 : decode cX4_takeChain 62 = .ok (.iload 6, 2) := by decide +kernel
theorem dX4_takeChain_64 : decode cX4_takeChain 64 = .ok (.sipush 240, 3) := by decide +kernel
theorem dX4_takeChain_67 : decode cX4_takeChain 67 = .ok (.if_icmp .ge 8, 3) := by decide +kernel
theorem dX4_takeChain_70 : decode cX4_takeChain 70 = .ok (.iload 6, 2) := by decide +kernel
theorem dX4_takeChain_72 : decode cX4_takeChain 72 = .ok (.goto 6, 3) := by decide +kernel
theorem dX4_takeChain_75 : decode cX4_takeChain 75 = .ok (.sipush 240, 3) := by decide +kernel
theorem dX4_takeChain_78 : decode cX4_takeChain 78 = .ok (.iastore, 1) := by decide +kernel
theorem dX4_takeChain_79 : decode cX4_takeChain 79 = .ok (.iload_n 3, 1) := by decide +kernel
theorem dX4_takeChain_80 : decode cX4_takeChain 80 = .ok (.iconst (-1), 1) := by decide +kernel
theorem dX4_takeChain_81 : decode cX4_takeChain 81 = .ok (.if_icmp .ne 9, 3) := by decide +kernel
theorem dX4_takeChain_84 : decode cX4_takeChain 84 = .ok (.iload 5, 2) := by decide +kernel
theorem dX4_takeChain_86 : decode cX4_takeChain 86 = .ok (.istore_n 2, 1) := by decide +kernel
theorem dX4_takeChain_87 : decode cX4_takeChain 87 = .ok (.goto 15, 3) := by decide +kernel
theorem dX4_takeChain_90 : decode cX4_takeChain 90 = .ok (.aload_n 0, 1) := by decide +kernel
theorem dX4_takeChain_91 : decode cX4_takeChain 91 = .ok (.getfield 7, 3) := by decide +kernel
theorem dX4_takeChain_94 : decode cX4_takeChain 94 = .ok (.sipush 192, 3) := by decide +kernel
theorem dX4_takeChain_97 : decode cX4_takeChain 97 = .ok (.iload_n 3, 1) := by decide +kernel
theorem dX4_takeChain_98 : decode cX4_takeChain 98 = .ok (.iadd, 1) := by decide +kernel
theorem dX4_takeChain_99 : decode cX4_takeChain 99 = .ok (.iload 5, 2) := by decide +kernel
theorem dX4_takeChain_101 : decode cX4_takeChain 101 = .ok (.iastore, 1) := by decide +kernel
theorem dX4_takeChain_102 : decode cX4_takeChain 102 = .ok (.iload 5, 2) := by decide +kernel
theorem dX4_takeChain_104 : decode cX4_takeChain 104 = .ok (.istore_n 3, 1) := by decide +kernel
theorem dX4_takeChain_105 : decode cX4_takeChain 105 = .ok (.iinc 4 1, 3) := by decide +kernel
theorem dX4_takeChain_108 : decode cX4_takeChain 108 = .ok (.goto (-101), 3) := by decide +kernel
theorem dX4_takeChain_111 : decode cX4_takeChain 111 = .ok (.iload_n 2, 1) := by decide +kernel
theorem dX4_takeChain_112 : decode cX4_takeChain 112 = .ok (.ireturn, 1) := by decide +kernel
theorem dX4_freeChain_0 : decode cX4_freeChain 0 = .ok (.iload_n 1, 1) := by decide +kernel
theorem dX4_freeChain_1 : decode cX4_freeChain 1 = .ok (.istore_n 2, 1) := by decide +kernel
theorem dX4_freeChain_2 : decode cX4_freeChain 2 = .ok (.iload_n 2, 1) := by decide +kernel
theorem dX4_freeChain_3 : decode cX4_freeChain 3 = .ok (.iconst (-1), 1) := by decide +kernel
theorem dX4_freeChain_4 : decode cX4_freeChain 4 = .ok (.if_icmp .eq 24, 3) := by decide +kernel
theorem dX4_freeChain_7 : decode cX4_freeChain 7 = .ok (.aload_n 0, 1) := by decide +kernel
theorem dX4_freeChain_8 : decode cX4_freeChain 8 = .ok (.getfield 7, 3) := by decide +kernel
theorem dX4_freeChain_11 : decode cX4_freeChain 11 = .ok (.iload_n 2, 1) := by decide +kernel
theorem dX4_freeChain_12 : decode cX4_freeChain 12 = .ok (.iconst 0, 1) := by decide +kernel
theorem dX4_freeChain_13 : decode cX4_freeChain 13 = .ok (.iastore, 1) := by decide +kernel
theorem dX4_freeChain_14 : decode cX4_freeChain 14 = .ok (.aload_n 0, 1) := by decide +kernel
theorem dX4_freeChain_15 : decode cX4_freeChain 15 = .ok (.getfield 7, 3) := by decide +kernel
theorem dX4_freeChain_18 : decode cX4_freeChain 18 = .ok (.sipush 192, 3) := by decide +kernel
theorem dX4_freeChain_21 : decode cX4_freeChain 21 = .ok (.iload_n 2, 1) := by decide +kernel
theorem dX4_freeChain_22 : decode cX4_freeChain 22 = .ok (.iadd, 1) := by decide +kernel
theorem dX4_freeChain_23 : decode cX4_freeChain 23 = .ok (.iaload, 1) := by decide +kernel
theorem dX4_freeChain_24 : decode cX4_freeChain 24 = .ok (.istore_n 2, 1) := by decide +kernel
theorem dX4_freeChain_25 : decode cX4_freeChain 25 = .ok (.goto (-23), 3) := by decide +kernel
theorem dX4_freeChain_28 : decode cX4_freeChain 28 = .ok (.return_, 1) := by decide +kernel
theorem dX4_isRecord_0 : decode cX4_isRecord 0 = .ok (.iload_n 1, 1) := by decide +kernel
theorem dX4_isRecord_1 : decode cX4_isRecord 1 = .ok (.ifCond .lt 28, 3) := by decide +kernel
theorem dX4_isRecord_4 : decode cX4_isRecord 4 = .ok (.iload_n 1, 1) := by decide +kernel
theorem dX4_isRecord_5 : decode cX4_isRecord 5 = .ok (.sipush 3072, 3) := by decide +kernel
theorem dX4_isRecord_8 : decode cX4_isRecord 8 = .ok (.if_icmp .ge 21, 3) := by decide +kernel
theorem dX4_isRecord_11 : decode cX4_isRecord 11 = .ok (.aload_n 0, 1) := by decide +kernel
theorem dX4_isRecord_12 : decode cX4_isRecord 12 = .ok (.getfield 7, 3) := by decide +kernel
theorem dX4_isRecord_15 : decode cX4_isRecord 15 = .ok (.sipush 6528, 3) := by decide +kernel
theorem dX4_isRecord_18 : decode cX4_isRecord 18 = .ok (.iload_n 1, 1) := by decide +kernel
theorem dX4_isRecord_19 : decode cX4_isRecord 19 = .ok (.iadd, 1) := by decide +kernel
theorem dX4_isRecord_20 : decode cX4_isRecord 20 = .ok (.iaload, 1) := by decide +kernel
theorem dX4_isRecord_21 : decode cX4_isRecord 21 = .ok (.iconst (-1), 1) := by decide +kernel
theorem dX4_isRecord_22 : decode cX4_isRecord 22 = .ok (.if_icmp .eq 7, 3) := by decide +kernel
theorem dX4_isRecord_25 : decode cX4_isRecord 25 = .ok (.iconst 1, 1) := by decide +kernel
theorem dX4_isRecord_26 : decode cX4_isRecord 26 = .ok (.goto 4, 3) := by decide +kernel
theorem dX4_isRecord_29 : decode cX4_isRecord 29 = .ok (.iconst 0, 1) := by decide +kernel
theorem dX4_isRecord_30 : decode cX4_isRecord 30 = .ok (.ireturn, 1) := by decide +kernel
theorem dX4_keep_0 : decode cX4_keep 0 = .ok (.aload_n 0, 1) := by decide +kernel
theorem dX4_keep_1 : decode cX4_keep 1 = .ok (.getfield 7, 3) := by decide +kernel
theorem dX4_keep_4 : decode cX4_keep 4 = .ok (.sipush 6528, 3) := by decide +kernel
theorem dX4_keep_7 : decode cX4_keep 7 = .ok (.iload_n 1, 1) := by decide +kernel
theorem dX4_keep_8 : decode cX4_keep 8 = .ok (.iadd, 1) := by decide +kernel
theorem dX4_keep_9 : decode cX4_keep 9 = .ok (.iload_n 2, 1) := by decide +kernel
theorem dX4_keep_10 : decode cX4_keep 10 = .ok (.iastore, 1) := by decide +kernel
theorem dX4_keep_11 : decode cX4_keep 11 = .ok (.aload_n 0, 1) := by decide +kernel
theorem dX4_keep_12 : decode cX4_keep 12 = .ok (.getfield 7, 3) := by decide +kernel
theorem dX4_keep_15 : decode cX4_keep 15 = .ok (.sipush 9600, 3) := by decide +kernel
theorem dX4_keep_18 : decode cX4_keep 18 = .ok (.iload_n 1, 1) := by decide +kernel
theorem dX4_keep_19 : decode cX4_keep 19 = .ok (.iadd, 1) := by decide +kernel
theorem dX4_keep_20 : decode cX4_keep 20 = .ok (.iload_n 3, 1) := by decide +kernel
theorem dX4_keep_21 : decode cX4_keep 21 = .ok (.iastore, 1) := by decide +kernel
theorem dX4_keep_22 : decode cX4_keep 22 = .ok (.aload_n 0, 1) := by decide +kernel
theorem dX4_keep_23 : decode cX4_keep 23 = .ok (.getfield 7, 3) := by decide +kernel
theorem dX4_keep_26 : decode cX4_keep 26 = .ok (.sipush 12672, 3) := by decide +kernel
theorem dX4_keep_29 : decode cX4_keep 29 = .ok (.iload_n 1, 1) := by decide +kernel
theorem dX4_keep_30 : decode cX4_keep 30 = .ok (.iadd, 1) := by decide +kernel
theorem dX4_keep_31 : decode cX4_keep 31 = .ok (.iload 4, 2) := by decide +kernel
theorem dX4_keep_33 : decode cX4_keep 33 = .ok (.iastore, 1) := by decide +kernel
theorem dX4_keep_34 : decode cX4_keep 34 = .ok (.aload_n 0, 1) := by decide +kernel
theorem dX4_keep_35 : decode cX4_keep 35 = .ok (.getfield 7, 3) := by decide +kernel
theorem dX4_keep_38 : decode cX4_keep 38 = .ok (.sipush 15744, 3) := by decide +kernel
theorem dX4_keep_41 : decode cX4_keep 41 = .ok (.iload_n 1, 1) := by decide +kernel
theorem dX4_keep_42 : decode cX4_keep 42 = .ok (.iadd, 1) := by decide +kernel
theorem dX4_keep_43 : decode cX4_keep 43 = .ok (.iload 5, 2) := by decide +kernel
theorem dX4_keep_45 : decode cX4_keep 45 = .ok (.iastore, 1) := by decide +kernel
theorem dX4_keep_46 : decode cX4_keep 46 = .ok (.return_, 1) := by decide +kernel
theorem dX4_inserts_0 : decode cX4_inserts 0 = .ok (.iload_n 1, 1) := by decide +kernel
theorem dX4_inserts_1 : decode cX4_inserts 1 = .ok (.invokestatic 55, 3) := by decide +kernel
theorem dX4_inserts_4 : decode cX4_inserts 4 = .ok (.aload_n 0, 1) := by decide +kernel
theorem dX4_inserts_5 : decode cX4_inserts 5 = .ok (.invokevirtual 58, 3) := by decide +kernel
theorem dX4_inserts_8 : decode cX4_inserts 8 = .ok (.if_icmp .le 5, 3) := by decide +kernel
theorem dX4_inserts_11 : decode cX4_inserts 11 = .ok (.iconst (-1), 1) := by decide +kernel
theorem dX4_inserts_12 : decode cX4_inserts 12 = .ok (.ireturn, 1) := by decide +kernel
theorem dX4_inserts_13 : decode cX4_inserts 13 = .ok (.aload_n 0, 1) := by decide +kernel
theorem dX4_inserts_14 : decode cX4_inserts 14 = .ok (.iload_n 1, 1) := by decide +kernel
theorem dX4_inserts_15 : decode cX4_inserts 15 = .ok (.invokevirtual 61, 3) := by decide +kernel
theorem dX4_inserts_18 : decode cX4_inserts 18 = .ok (.istore_n 3, 1) := by decide +kernel
theorem dX4_inserts_19 : decode cX4_inserts 19 = .ok (.iload_n 1, 1) := by decide +kernel
theorem dX4_inserts_20 : decode cX4_inserts 20 = .ok (.iconst 0, 1) := by decide +kernel
theorem dX4_inserts_21 : decode cX4_inserts 21 = .ok (.invokestatic 64, 3) := by decide +kernel
theorem dX4_inserts_24 : decode cX4_inserts 24 = .ok (.istore 4, 2) := by decide +kernel
theorem dX4_inserts_26 : decode cX4_inserts 26 = .ok (.aload_n 0, 1) := by decide +kernel
theorem dX4_inserts_27 : decode cX4_inserts 27 = .ok (.iload 4, 2) := by decide +kernel
theorem dX4_inserts_29 : decode cX4_inserts 29 = .ok (.iconst (-1), 1) := by decide +kernel
theorem dX4_inserts_30 : decode cX4_inserts 30 = .ok (.iconst (-1), 1) := by decide +kernel
theorem dX4_inserts_31 : decode cX4_inserts 31 = .ok (.invokevirtual 68, 3) := by decide +kernel
theorem dX4_inserts_34 : decode cX4_inserts 34 = .ok (.istore 5, 2) := by decide +kernel
theorem dX4_inserts_36 : decode cX4_inserts 36 = .ok (.iload 5, 2) := by decide +kernel
theorem dX4_inserts_38 : decode cX4_inserts 38 = .ok (.iconst (-1), 1) := by decide +kernel
theorem dX4_inserts_39 : decode cX4_inserts 39 = .ok (.if_icmp .ne 10, 3) := by decide +kernel
theorem dX4_inserts_42 : decode cX4_inserts 42 = .ok (.aload_n 0, 1) := by decide +kernel
theorem dX4_inserts_43 : decode cX4_inserts 43 = .ok (.iload_n 3, 1) := by decide +kernel
theorem dX4_inserts_44 : decode cX4_inserts 44 = .ok (.invokevirtual 72, 3) := by decide +kernel
theorem dX4_inserts_47 : decode cX4_inserts 47 = .ok (.iconst (-1), 1) := by decide +kernel
theorem dX4_inserts_48 : decode cX4_inserts 48 = .ok (.ireturn, 1) := by decide +kernel
theorem dX4_inserts_49 : decode cX4_inserts 49 = .ok (.aload_n 0, 1) := by decide +kernel
theorem dX4_inserts_50 : decode cX4_inserts 50 = .ok (.getfield 7, 3) := by decide +kernel
theorem dX4_inserts_53 : decode cX4_inserts 53 = .ok (.iload 5, 2) := by decide +kernel
theorem dX4_inserts_55 : decode cX4_inserts 55 = .ok (.iaload, 1) := by decide +kernel
theorem dX4_inserts_56 : decode cX4_inserts 56 = .ok (.ifCond .ne 7, 3) := by decide +kernel
theorem dX4_inserts_59 : decode cX4_inserts 59 = .ok (.iconst 0, 1) := by decide +kernel
theorem dX4_inserts_60 : decode cX4_inserts 60 = .ok (.goto 9, 3) := by decide +kernel
theorem dX4_inserts_63 : decode cX4_inserts 63 = .ok (.aload_n 0, 1) := by decide +kernel
theorem dX4_inserts_64 : decode cX4_inserts 64 = .ok (.iload 5, 2) := by decide +kernel
theorem dX4_inserts_66 : decode cX4_inserts 66 = .ok (.invokevirtual 76, 3) := by decide +kernel
theorem dX4_inserts_69 : decode cX4_inserts 69 = .ok (.istore 6, 2) := by decide +kernel
theorem dX4_inserts_71 : decode cX4_inserts 71 = .ok (.bipush 32, 2) := by decide +kernel
theorem dX4_inserts_73 : decode cX4_inserts 73 = .ok (.iload 5, 2) := by decide +kernel
theorem dX4_inserts_75 : decode cX4_inserts 75 = .ok (.imul, 1) := by decide +kernel
theorem dX4_inserts_76 : decode cX4_inserts 76 = .ok (.iload 6, 2) := by decide +kernel
theorem dX4_inserts_78 : decode cX4_inserts 78 = .ok (.iadd, 1) := by decide +kernel
theorem dX4_inserts_79 : decode cX4_inserts 79 = .ok (.istore 7, 2) := by decide +kernel
theorem dX4_inserts_81 : decode cX4_inserts 81 = .ok (.aload_n 0, 1) := by decide +kernel
theorem dX4_inserts_82 : decode cX4_inserts 82 = .ok (.iload 5, 2) := by decide +kernel
theorem dX4_inserts_84 : decode cX4_inserts 84 = .ok (.iload 6, 2) := by decide +kernel
theorem dX4_inserts_86 : decode cX4_inserts 86 = .ok (.iload 4, 2) := by decide +kernel
theorem dX4_inserts_88 : decode cX4_inserts 88 = .ok (.iload 7, 2) := by decide +kernel
theorem dX4_inserts_90 : decode cX4_inserts 90 = .ok (.invokevirtual 79, 3) := by decide +kernel
theorem dX4_inserts_93 : decode cX4_inserts 93 = .ok (.aload_n 0, 1) := by decide +kernel
theorem dX4_inserts_94 : decode cX4_inserts 94 = .ok (.iload 7, 2) := by decide +kernel
theorem dX4_inserts_96 : decode cX4_inserts 96 = .ok (.iload 7, 2) := by decide +kernel
theorem dX4_inserts_98 : decode cX4_inserts 98 = .ok (.iload_n 1, 1) := by decide +kernel
theorem dX4_inserts_99 : decode cX4_inserts 99 = .ok (.iload_n 2, 1) := by decide +kernel
theorem dX4_inserts_100 : decode cX4_inserts 100 = .ok (.iload_n 3, 1) := by decide +kernel
theorem dX4_inserts_101 : decode cX4_inserts 101 = .ok (.invokevirtual 83, 3) := by decide +kernel
theorem dX4_inserts_104 : decode cX4_inserts 104 = .ok (.iload 7, 2) := by decide +kernel
theorem dX4_inserts_106 : decode cX4_inserts 106 = .ok (.ireturn, 1) := by decide +kernel
theorem dX4_fits_0 : decode cX4_fits 0 = .ok (.aload_n 0, 1) := by decide +kernel
theorem dX4_fits_1 : decode cX4_fits 1 = .ok (.iload_n 1, 1) := by decide +kernel
theorem dX4_fits_2 : decode cX4_fits 2 = .ok (.invokevirtual 48, 3) := by decide +kernel
theorem dX4_fits_5 : decode cX4_fits 5 = .ok (.aload_n 0, 1) := by decide +kernel
theorem dX4_fits_6 : decode cX4_fits 6 = .ok (.iload_n 1, 1) := by decide +kernel
theorem dX4_fits_7 : decode cX4_fits 7 = .ok (.iload_n 2, 1) := by decide +kernel
theorem dX4_fits_8 : decode cX4_fits 8 = .ok (.invokevirtual 27, 3) := by decide +kernel
theorem dX4_fits_11 : decode cX4_fits 11 = .ok (.iadd, 1) := by decide +kernel
theorem dX4_fits_12 : decode cX4_fits 12 = .ok (.iload_n 3, 1) := by decide +kernel
theorem dX4_fits_13 : decode cX4_fits 13 = .ok (.if_icmp .lt 7, 3) := by decide +kernel
theorem dX4_fits_16 : decode cX4_fits 16 = .ok (.iconst 1, 1) := by decide +kernel
theorem dX4_fits_17 : decode cX4_fits 17 = .ok (.goto 4, 3) := by decide +kernel
theorem dX4_fits_20 : decode cX4_fits 20 = .ok (.iconst 0, 1) := by decide +kernel
theorem dX4_fits_21 : decode cX4_fits 21 = .ok (.ireturn, 1) := by decide +kernel
theorem dX4_updates_0 : decode cX4_updates 0 = .ok (.iload_n 2, 1) := by decide +kernel
theorem dX4_updates_1 : decode cX4_updates 1 = .ok (.invokestatic 55, 3) := by decide +kernel
theorem dX4_updates_4 : decode cX4_updates 4 = .ok (.aload_n 0, 1) := by decide +kernel
theorem dX4_updates_5 : decode cX4_updates 5 = .ok (.invokevirtual 58, 3) := by decide +kernel
theorem dX4_updates_8 : decode cX4_updates 8 = .ok (.if_icmp .le 5, 3) := by decide +kernel
theorem dX4_updates_11 : decode cX4_updates 11 = .ok (.iconst 0, 1) := by decide +kernel
theorem dX4_updates_12 : decode cX4_updates 12 = .ok (.ireturn, 1) := by decide +kernel
theorem dX4_updates_13 : decode cX4_updates 13 = .ok (.aload_n 0, 1) := by decide +kernel
theorem dX4_updates_14 : decode cX4_updates 14 = .ok (.iload_n 2, 1) := by decide +kernel
theorem dX4_updates_15 : decode cX4_updates 15 = .ok (.invokevirtual 61, 3) := by decide +kernel
theorem dX4_updates_18 : decode cX4_updates 18 = .ok (.istore 4, 2) := by decide +kernel
theorem dX4_updates_20 : decode cX4_updates 20 = .ok (.aload_n 0, 1) := by decide +kernel
theorem dX4_updates_21 : decode cX4_updates 21 = .ok (.getfield 7, 3) := by decide +kernel
theorem dX4_updates_24 : decode cX4_updates 24 = .ok (.sipush 15744, 3) := by decide +kernel
theorem dX4_updates_27 : decode cX4_updates 27 = .ok (.iload_n 1, 1) := by decide +kernel
theorem dX4_updates_28 : decode cX4_updates 28 = .ok (.iadd, 1) := by decide +kernel
theorem dX4_updates_29 : decode cX4_updates 29 = .ok (.iaload, 1) := by decide +kernel
theorem dX4_updates_30 : decode cX4_updates 30 = .ok (.istore 5, 2) := by decide +kernel
theorem dX4_updates_32 : decode cX4_updates 32 = .ok (.iload_n 1, 1) := by decide +kernel
theorem dX4_updates_33 : decode cX4_updates 33 = .ok (.bipush 32, 2) := by decide +kernel
theorem dX4_updates_35 : decode cX4_updates 35 = .ok (.idiv, 1) := by decide +kernel
theorem dX4_updates_36 : decode cX4_updates 36 = .ok (.istore 6, 2) := by decide +kernel
theorem dX4_updates_38 : decode cX4_updates 38 = .ok (.aload_n 0, 1) := by decide +kernel
theorem dX4_updates_39 : decode cX4_updates 39 = .ok (.getfield 7, 3) := by decide +kernel
theorem dX4_updates_42 : decode cX4_updates 42 = .ok (.sipush 6528, 3) := by decide +kernel
theorem dX4_updates_45 : decode cX4_updates 45 = .ok (.iload_n 1, 1) := by decide +kernel
theorem dX4_updates_46 : decode cX4_updates 46 = .ok (.iadd, 1) := by decide +kernel
theorem dX4_updates_47 : decode cX4_updates 47 = .ok (.iaload, 1) := by decide +kernel
theorem dX4_updates_48 : decode cX4_updates 48 = .ok (.istore 7, 2) := by decide +kernel
theorem dX4_updates_50 : decode cX4_updates 50 = .ok (.iload 7, 2) := by decide +kernel
theorem dX4_updates_52 : decode cX4_updates 52 = .ok (.bipush 32, 2) := by decide +kernel
theorem dX4_updates_54 : decode cX4_updates 54 = .ok (.idiv, 1) := by decide +kernel
theorem dX4_updates_55 : decode cX4_updates 55 = .ok (.istore 8, 2) := by decide +kernel
theorem dX4_updates_57 : decode cX4_updates 57 = .ok (.iload 7, 2) := by decide +kernel
theorem dX4_updates_59 : decode cX4_updates 59 = .ok (.iload_n 1, 1) := by decide +kernel
theorem dX4_updates_60 : decode cX4_updates 60 = .ok (.if_icmp .eq 7, 3) := by decide +kernel
theorem dX4_updates_63 : decode cX4_updates 63 = .ok (.iconst 1, 1) := by decide +kernel
theorem dX4_updates_64 : decode cX4_updates 64 = .ok (.goto 4, 3) := by decide +kernel
theorem dX4_updates_67 : decode cX4_updates 67 = .ok (.iconst 0, 1) := by decide +kernel
theorem dX4_updates_68 : decode cX4_updates 68 = .ok (.istore 9, 2) := by decide +kernel
theorem dX4_updates_70 : decode cX4_updates 70 = .ok (.iload_n 2, 1) := by decide +kernel
theorem dX4_updates_71 : decode cX4_updates 71 = .ok (.iconst 0, 1) := by decide +kernel
theorem dX4_updates_72 : decode cX4_updates 72 = .ok (.invokestatic 64, 3) := by decide +kernel
theorem dX4_updates_75 : decode cX4_updates 75 = .ok (.istore 10, 2) := by decide +kernel
theorem dX4_updates_77 : decode cX4_updates 77 = .ok (.iload_n 2, 1) := by decide +kernel
theorem dX4_updates_78 : decode cX4_updates 78 = .ok (.iconst 1, 1) := by decide +kernel
theorem dX4_updates_79 : decode cX4_updates 79 = .ok (.invokestatic 64, 3) := by decide +kernel
theorem dX4_updates_82 : decode cX4_updates 82 = .ok (.istore 11, 2) := by decide +kernel
theorem dX4_updates_84 : decode cX4_updates 84 = .ok (.aload_n 0, 1) := by decide +kernel
theorem dX4_updates_85 : decode cX4_updates 85 = .ok (.iload 6, 2) := by decide +kernel
theorem dX4_updates_87 : decode cX4_updates 87 = .ok (.iload_n 1, 1) := by decide +kernel
theorem dX4_updates_88 : decode cX4_updates 88 = .ok (.bipush 32, 2) := by decide +kernel
theorem dX4_updates_90 : decode cX4_updates 90 = .ok (.irem, 1) := by decide +kernel
theorem dX4_updates_91 : decode cX4_updates 91 = .ok (.iload 10, 2) := by decide +kernel
theorem dX4_updates_93 : decode cX4_updates 93 = .ok (.invokevirtual 87, 3) := by decide +kernel
theorem dX4_updates_96 : decode cX4_updates 96 = .ok (.ifCond .eq 45, 3) := by decide +kernel
theorem dX4_updates_99 : decode cX4_updates 99 = .ok (.aload_n 0, 1) := by decide +kernel
theorem dX4_updates_100 : decode cX4_updates 100 = .ok (.iload 6, 2) := by decide +kernel
theorem dX4_updates_102 : decode cX4_updates 102 = .ok (.iload_n 1, 1) := by decide +kernel
theorem dX4_updates_103 : decode cX4_updates 103 = .ok (.bipush 32, 2) := by decide +kernel
theorem dX4_updates_105 : decode cX4_updates 105 = .ok (.irem, 1) := by decide +kernel
theorem dX4_updates_106 : decode cX4_updates 106 = .ok (.iload 10, 2) := by decide +kernel
theorem dX4_updates_108 : decode cX4_updates 108 = .ok (.iload_n 1, 1) := by decide +kernel
theorem dX4_updates_109 : decode cX4_updates 109 = .ok (.invokevirtual 79, 3) := by decide +kernel
theorem dX4_updates_112 : decode cX4_updates 112 = .ok (.iload 9, 2) := by decide +kernel
theorem dX4_updates_114 : decode cX4_updates 114 = .ok (.ifCond .eq 14, 3) := by decide +kernel
theorem dX4_updates_117 : decode cX4_updates 117 = .ok (.aload_n 0, 1) := by decide +kernel
theorem dX4_updates_118 : decode cX4_updates 118 = .ok (.iload 8, 2) := by decide +kernel
theorem dX4_updates_120 : decode cX4_updates 120 = .ok (.iload 7, 2) := by decide +kernel
theorem dX4_updates_122 : decode cX4_updates 122 = .ok (.bipush 32, 2) := by decide +kernel
theorem dX4_updates_124 : decode cX4_updates 124 = .ok (.irem, 1) := by decide +kernel
theorem dX4_updates_125 : decode cX4_updates 125 = .ok (.invokevirtual 91, 3) := by decide +kernel
theorem dX4_updates_128 : decode cX4_updates 128 = .ok (.aload_n 0, 1) := by decide +kernel
theorem dX4_updates_129 : decode cX4_updates 129 = .ok (.iload_n 1, 1) := by decide +kernel
theorem dX4_updates_130 : decode cX4_updates 130 = .ok (.iload_n 1, 1) := by decide +kernel
theorem dX4_updates_131 : decode cX4_updates 131 = .ok (.iload_n 2, 1) := by decide +kernel
theorem dX4_updates_132 : decode cX4_updates 132 = .ok (.iload_n 3, 1) := by decide +kernel
theorem dX4_updates_133 : decode cX4_updates 133 = .ok (.iload 4, 2) := by decide +kernel
theorem dX4_updates_135 : decode cX4_updates 135 = .ok (.invokevirtual 83, 3) := by decide +kernel
theorem dX4_updates_138 : decode cX4_updates 138 = .ok (.goto 159, 3) := by decide +kernel
theorem dX4_updates_141 : decode cX4_updates 141 = .ok (.iload 9, 2) := by decide +kernel
theorem dX4_updates_143 : decode cX4_updates 143 = .ok (.ifCond .eq 47, 3) := by decide +kernel
theorem dX4_updates_146 : decode cX4_updates 146 = .ok (.aload_n 0, 1) := by decide +kernel
theorem dX4_updates_147 : decode cX4_updates 147 = .ok (.iload 8, 2) := by decide +kernel
theorem dX4_updates_149 : decode cX4_updates 149 = .ok (.iload 7, 2) := by decide +kernel
theorem dX4_updates_151 : decode cX4_updates 151 = .ok (.bipush 32, 2) := by decide +kernel
theorem dX4_updates_153 : decode cX4_updates 153 = .ok (.irem, 1) := by decide +kernel
theorem dX4_updates_154 : decode cX4_updates 154 = .ok (.iload 11, 2) := by decide +kernel
theorem dX4_updates_156 : decode cX4_updates 156 = .ok (.invokevirtual 87, 3) := by decide +kernel
theorem dX4_updates_159 : decode cX4_updates 159 = .ok (.ifCond .eq 31, 3) := by decide +kernel
theorem dX4_updates_162 : decode cX4_updates 162 = .ok (.aload_n 0, 1) := by decide +kernel
theorem dX4_updates_163 : decode cX4_updates 163 = .ok (.iload 8, 2) := by decide +kernel
theorem dX4_updates_165 : decode cX4_updates 165 = .ok (.iload 7, 2) := by decide +kernel
theorem dX4_updates_167 : decode cX4_updates 167 = .ok (.bipush 32, 2) := by decide +kernel
theorem dX4_updates_169 : decode cX4_updates 169 = .ok (.irem, 1) := by decide +kernel
theorem dX4_updates_170 : decode cX4_updates 170 = .ok (.iload 11, 2) := by decide +kernel
theorem dX4_updates_172 : decode cX4_updates 172 = .ok (.iload_n 1, 1) := by decide +kernel
theorem dX4_updates_173 : decode cX4_updates 173 = .ok (.invokevirtual 79, 3) := by decide +kernel
theorem dX4_updates_176 : decode cX4_updates 176 = .ok (.aload_n 0, 1) := by decide +kernel
theorem dX4_updates_177 : decode cX4_updates 177 = .ok (.iload_n 1, 1) := by decide +kernel
theorem dX4_updates_178 : decode cX4_updates 178 = .ok (.iload 7, 2) := by decide +kernel
theorem dX4_updates_180 : decode cX4_updates 180 = .ok (.iload_n 2, 1) := by decide +kernel
theorem dX4_updates_181 : decode cX4_updates 181 = .ok (.iload_n 3, 1) := by decide +kernel
theorem dX4_updates_182 : decode cX4_updates 182 = .ok (.iload 4, 2) := by decide +kernel
theorem dX4_updates_184 : decode cX4_updates 184 = .ok (.invokevirtual 83, 3) := by decide +kernel
theorem dX4_updates_187 : decode cX4_updates 187 = .ok (.goto 110, 3) := by decide +kernel
theorem dX4_updates_190 : decode cX4_updates 190 = .ok (.aload_n 0, 1) := by decide +kernel
theorem dX4_updates_191 : decode cX4_updates 191 = .ok (.iload 11, 2) := by decide +kernel
theorem dX4_updates_193 : decode cX4_updates 193 = .ok (.iload 6, 2) := by decide +kernel
theorem dX4_updates_195 : decode cX4_updates 195 = .ok (.iload 8, 2) := by decide +kernel
theorem dX4_updates_197 : decode cX4_updates 197 = .ok (.invokevirtual 68, 3) := by decide +kernel
theorem dX4_updates_200 : decode cX4_updates 200 = .ok (.istore 12, 2) := by decide +kernel
theorem dX4_updates_202 : decode cX4_updates 202 = .ok (.iload 12, 2) := by decide +kernel
theorem dX4_updates_204 : decode cX4_updates 204 = .ok (.iconst (-1), 1) := by decide +kernel
theorem dX4_updates_205 : decode cX4_updates 205 = .ok (.if_icmp .ne 11, 3) := by decide +kernel
theorem dX4_updates_208 : decode cX4_updates 208 = .ok (.aload_n 0, 1) := by decide +kernel
theorem dX4_updates_209 : decode cX4_updates 209 = .ok (.iload 4, 2) := by decide +kernel
theorem dX4_updates_211 : decode cX4_updates 211 = .ok (.invokevirtual 72, 3) := by decide +kernel
theorem dX4_updates_214 : decode cX4_updates 214 = .ok (.iconst 0, 1) := by decide +kernel
theorem dX4_updates_215 : decode cX4_updates 215 = .ok (.ireturn, 1) := by decide +kernel
theorem dX4_updates_216 : decode cX4_updates 216 = .ok (.aload_n 0, 1) := by decide +kernel
theorem dX4_updates_217 : decode cX4_updates 217 = .ok (.getfield 7, 3) := by decide +kernel
theorem dX4_updates_220 : decode cX4_updates 220 = .ok (.iload 12, 2) := by decide +kernel
theorem dX4_updates_222 : decode cX4_updates 222 = .ok (.iaload, 1) := by decide +kernel
theorem dX4_updates_223 : decode cX4_updates 223 = .ok (.ifCond .ne 7, 3) := by decide +kernel
theorem dX4_updates_226 : decode cX4_updates 226 = .ok (.iconst 0, 1) := by decide +kernel
theorem dX4_updates_227 : decode cX4_updates 227 = .ok (.goto 9, 3) := by decide +kernel
theorem dX4_updates_230 : decode cX4_updates 230 = .ok (.aload_n 0, 1) := by decide +kernel
theorem dX4_updates_231 : decode cX4_updates 231 = .ok (.iload 12, 2) := by decide +kernel
theorem dX4_updates_233 : decode cX4_updates 233 = .ok (.invokevirtual 76, 3) := by decide +kernel
theorem dX4_updates_236 : decode cX4_updates 236 = .ok (.istore 13, 2) := by decide +kernel
theorem dX4_updates_238 : decode cX4_updates 238 = .ok (.aload_n 0, 1) := by decide +kernel
theorem dX4_updates_239 : decode cX4_updates 239 = .ok (.iload 12, 2) := by decide +kernel
theorem dX4_updates_241 : decode cX4_updates 241 = .ok (.iload 13, 2) := by decide +kernel
theorem dX4_updates_243 : decode cX4_updates 243 = .ok (.iload 11, 2) := by decide +kernel
theorem dX4_updates_245 : decode cX4_updates 245 = .ok (.iload_n 1, 1) := by decide +kernel
theorem dX4_updates_246 : decode cX4_updates 246 = .ok (.invokevirtual 79, 3) := by decide +kernel
theorem dX4_updates_249 : decode cX4_updates 249 = .ok (.iload 9, 2) := by decide +kernel
theorem dX4_updates_251 : decode cX4_updates 251 = .ok (.ifCond .eq 17, 3) := by decide +kernel
theorem dX4_updates_254 : decode cX4_updates 254 = .ok (.aload_n 0, 1) := by decide +kernel
theorem dX4_updates_255 : decode cX4_updates 255 = .ok (.iload 8, 2) := by decide +kernel
theorem dX4_updates_257 : decode cX4_updates 257 = .ok (.iload 7, 2) := by decide +kernel
theorem dX4_updates_259 : decode cX4_updates 259 = .ok (.bipush 32, 2) := by decide +kernel
theorem dX4_updates_261 : decode cX4_updates 261 = .ok (.irem, 1) := by decide +kernel
theorem dX4_updates_262 : decode cX4_updates 262 = .ok (.invokevirtual 91, 3) := by decide +kernel
theorem dX4_updates_265 : decode cX4_updates 265 = .ok (.goto 15, 3) := by decide +kernel
theorem dX4_updates_268 : decode cX4_updates 268 = .ok (.aload_n 0, 1) := by decide +kernel
theorem dX4_updates_269 : decode cX4_updates 269 = .ok (.iload 6, 2) := by decide +kernel
theorem dX4_updates_271 : decode cX4_updates 271 = .ok (.iload_n 1, 1) := by decide +kernel
theorem dX4_updates_272 : decode cX4_updates 272 = .ok (.bipush 32, 2) := by decide +kernel
theorem dX4_updates_274 : decode cX4_updates 274 = .ok (.irem, 1) := by decide +kernel
theorem dX4_updates_275 : decode cX4_updates 275 = .ok (.iconst 5, 1) := by decide +kernel
theorem dX4_updates_276 : decode cX4_updates 276 = .ok (.iload_n 1, 1) := by decide +kernel
theorem dX4_updates_277 : decode cX4_updates 277 = .ok (.invokevirtual 79, 3) := by decide +kernel
theorem dX4_updates_280 : decode cX4_updates 280 = .ok (.aload_n 0, 1) := by decide +kernel
theorem dX4_updates_281 : decode cX4_updates 281 = .ok (.iload_n 1, 1) := by decide +kernel
theorem dX4_updates_282 : decode cX4_updates 282 = .ok (.bipush 32, 2) := by decide +kernel
theorem dX4_updates_284 : decode cX4_updates 284 = .ok (.iload 12, 2) := by decide +kernel
theorem dX4_updates_286 : decode cX4_updates 286 = .ok (.imul, 1) := by decide +kernel
theorem dX4_updates_287 : decode cX4_updates 287 = .ok (.iload 13, 2) := by decide +kernel
theorem dX4_updates_289 : decode cX4_updates 289 = .ok (.iadd, 1) := by decide +kernel
theorem dX4_updates_290 : decode cX4_updates 290 = .ok (.iload_n 2, 1) := by decide +kernel
theorem dX4_updates_291 : decode cX4_updates 291 = .ok (.iload_n 3, 1) := by decide +kernel
theorem dX4_updates_292 : decode cX4_updates 292 = .ok (.iload 4, 2) := by decide +kernel
theorem dX4_updates_294 : decode cX4_updates 294 = .ok (.invokevirtual 83, 3) := by decide +kernel
theorem dX4_updates_297 : decode cX4_updates 297 = .ok (.aload_n 0, 1) := by decide +kernel
theorem dX4_updates_298 : decode cX4_updates 298 = .ok (.iload 5, 2) := by decide +kernel
theorem dX4_updates_300 : decode cX4_updates 300 = .ok (.invokevirtual 72, 3) := by decide +kernel
theorem dX4_updates_303 : decode cX4_updates 303 = .ok (.iconst 1, 1) := by decide +kernel
theorem dX4_updates_304 : decode cX4_updates 304 = .ok (.ireturn, 1) := by decide +kernel
theorem dX4_deletes_0 : decode cX4_deletes 0 = .ok (.aload_n 0, 1) := by decide +kernel
theorem dX4_deletes_1 : decode cX4_deletes 1 = .ok (.getfield 7, 3) := by decide +kernel
theorem dX4_deletes_4 : decode cX4_deletes 4 = .ok (.sipush 6528, 3) := by decide +kernel
theorem dX4_deletes_7 : decode cX4_deletes 7 = .ok (.iload_n 1, 1) := by decide +kernel
theorem dX4_deletes_8 : decode cX4_deletes 8 = .ok (.iadd, 1) := by decide +kernel
theorem dX4_deletes_9 : decode cX4_deletes 9 = .ok (.iaload, 1) := by decide +kernel
theorem dX4_deletes_10 : decode cX4_deletes 10 = .ok (.istore_n 2, 1) := by decide +kernel
theorem dX4_deletes_11 : decode cX4_deletes 11 = .ok (.aload_n 0, 1) := by decide +kernel
theorem dX4_deletes_12 : decode cX4_deletes 12 = .ok (.iload_n 2, 1) := by decide +kernel
theorem dX4_deletes_13 : decode cX4_deletes 13 = .ok (.bipush 32, 2) := by decide +kernel
theorem dX4_deletes_15 : decode cX4_deletes 15 = .ok (.idiv, 1) := by decide +kernel
theorem dX4_deletes_16 : decode cX4_deletes 16 = .ok (.iload_n 2, 1) := by decide +kernel
theorem dX4_deletes_17 : decode cX4_deletes 17 = .ok (.bipush 32, 2) := by decide +kernel
theorem dX4_deletes_19 : decode cX4_deletes 19 = .ok (.irem, 1) := by decide +kernel
theorem dX4_deletes_20 : decode cX4_deletes 20 = .ok (.invokevirtual 91, 3) := by decide +kernel
theorem dX4_deletes_23 : decode cX4_deletes 23 = .ok (.iload_n 2, 1) := by decide +kernel
theorem dX4_deletes_24 : decode cX4_deletes 24 = .ok (.iload_n 1, 1) := by decide +kernel
theorem dX4_deletes_25 : decode cX4_deletes 25 = .ok (.if_icmp .eq 15, 3) := by decide +kernel
theorem dX4_deletes_28 : decode cX4_deletes 28 = .ok (.aload_n 0, 1) := by decide +kernel
theorem dX4_deletes_29 : decode cX4_deletes 29 = .ok (.iload_n 1, 1) := by decide +kernel
theorem dX4_deletes_30 : decode cX4_deletes 30 = .ok (.bipush 32, 2) := by decide +kernel
theorem dX4_deletes_32 : decode cX4_deletes 32 = .ok (.idiv, 1) := by decide +kernel
theorem dX4_deletes_33 : decode cX4_deletes 33 = .ok (.iload_n 1, 1) := by decide +kernel
theorem dX4_deletes_34 : decode cX4_deletes 34 = .ok (.bipush 32, 2) := by decide +kernel
theorem dX4_deletes_36 : decode cX4_deletes 36 = .ok (.irem, 1) := by decide +kernel
theorem dX4_deletes_37 : decode cX4_deletes 37 = .ok (.invokevirtual 91, 3) := by decide +kernel
theorem dX4_deletes_40 : decode cX4_deletes 40 = .ok (.aload_n 0, 1) := by decide +kernel
theorem dX4_deletes_41 : decode cX4_deletes 41 = .ok (.aload_n 0, 1) := by decide +kernel
theorem dX4_deletes_42 : decode cX4_deletes 42 = .ok (.getfield 7, 3) := by decide +kernel
theorem dX4_deletes_45 : decode cX4_deletes 45 = .ok (.sipush 15744, 3) := by decide +kernel
theorem dX4_deletes_48 : decode cX4_deletes 48 = .ok (.iload_n 1, 1) := by decide +kernel
theorem dX4_deletes_49 : decode cX4_deletes 49 = .ok (.iadd, 1) := by decide +kernel
theorem dX4_deletes_50 : decode cX4_deletes 50 = .ok (.iaload, 1) := by decide +kernel
theorem dX4_deletes_51 : decode cX4_deletes 51 = .ok (.invokevirtual 72, 3) := by decide +kernel
theorem dX4_deletes_54 : decode cX4_deletes 54 = .ok (.aload_n 0, 1) := by decide +kernel
theorem dX4_deletes_55 : decode cX4_deletes 55 = .ok (.getfield 7, 3) := by decide +kernel
theorem dX4_deletes_58 : decode cX4_deletes 58 = .ok (.sipush 6528, 3) := by decide +kernel
theorem dX4_deletes_61 : decode cX4_deletes 61 = .ok (.iload_n 1, 1) := by decide +kernel
theorem dX4_deletes_62 : decode cX4_deletes 62 = .ok (.iadd, 1) := by decide +kernel
theorem dX4_deletes_63 : decode cX4_deletes 63 = .ok (.iconst (-1), 1) := by decide +kernel
theorem dX4_deletes_64 : decode cX4_deletes 64 = .ok (.iastore, 1) := by decide +kernel
theorem dX4_deletes_65 : decode cX4_deletes 65 = .ok (.aload_n 0, 1) := by decide +kernel
theorem dX4_deletes_66 : decode cX4_deletes 66 = .ok (.getfield 7, 3) := by decide +kernel
theorem dX4_deletes_69 : decode cX4_deletes 69 = .ok (.sipush 15744, 3) := by decide +kernel
theorem dX4_deletes_72 : decode cX4_deletes 72 = .ok (.iload_n 1, 1) := by decide +kernel
theorem dX4_deletes_73 : decode cX4_deletes 73 = .ok (.iadd, 1) := by decide +kernel
theorem dX4_deletes_74 : decode cX4_deletes 74 = .ok (.iconst (-1), 1) := by decide +kernel
theorem dX4_deletes_75 : decode cX4_deletes 75 = .ok (.iastore, 1) := by decide +kernel
theorem dX4_deletes_76 : decode cX4_deletes 76 = .ok (.return_, 1) := by decide +kernel
theorem dX4_note_0 : decode cX4_note 0 = .ok (.iconst 4, 1) := by decide +kernel
theorem dX4_note_1 : decode cX4_note 1 = .ok (.aload_n 0, 1) := by decide +kernel
theorem dX4_note_2 : decode cX4_note 2 = .ok (.getfield 95, 3) := by decide +kernel
theorem dX4_note_5 : decode cX4_note 5 = .ok (.imul, 1) := by decide +kernel
theorem dX4_note_6 : decode cX4_note 6 = .ok (.istore 5, 2) := by decide +kernel
theorem dX4_note_8 : decode cX4_note 8 = .ok (.aload_n 0, 1) := by decide +kernel
theorem dX4_note_9 : decode cX4_note 9 = .ok (.getfield 16, 3) := by decide +kernel
theorem dX4_note_12 : decode cX4_note 12 = .ok (.iload 5, 2) := by decide +kernel
theorem dX4_note_14 : decode cX4_note 14 = .ok (.iload_n 1, 1) := by decide +kernel
theorem dX4_note_15 : decode cX4_note 15 = .ok (.iastore, 1) := by decide +kernel
theorem dX4_note_16 : decode cX4_note 16 = .ok (.aload_n 0, 1) := by decide +kernel
theorem dX4_note_17 : decode cX4_note 17 = .ok (.getfield 16, 3) := by decide +kernel
theorem dX4_note_20 : decode cX4_note 20 = .ok (.iload 5, 2) := by decide +kernel
theorem dX4_note_22 : decode cX4_note 22 = .ok (.iconst 1, 1) := by decide +kernel
theorem dX4_note_23 : decode cX4_note 23 = .ok (.iadd, 1) := by decide +kernel
theorem dX4_note_24 : decode cX4_note 24 = .ok (.iload_n 2, 1) := by decide +kernel
theorem dX4_note_25 : decode cX4_note 25 = .ok (.iastore, 1) := by decide +kernel
theorem dX4_note_26 : decode cX4_note 26 = .ok (.aload_n 0, 1) := by decide +kernel
theorem dX4_note_27 : decode cX4_note 27 = .ok (.getfield 16, 3) := by decide +kernel
theorem dX4_note_30 : decode cX4_note 30 = .ok (.iload 5, 2) := by decide +kernel
theorem dX4_note_32 : decode cX4_note 32 = .ok (.iconst 2, 1) := by decide +kernel
theorem dX4_note_33 : decode cX4_note 33 = .ok (.iadd, 1) := by decide +kernel
theorem dX4_note_34 : decode cX4_note 34 = .ok (.iload_n 3, 1) := by decide +kernel
theorem dX4_note_35 : decode cX4_note 35 = .ok (.iastore, 1) := by decide +kernel
theorem dX4_note_36 : decode cX4_note 36 = .ok (.aload_n 0, 1) := by decide +kernel
theorem dX4_note_37 : decode cX4_note 37 = .ok (.getfield 16, 3) := by decide +kernel
theorem dX4_note_40 : decode cX4_note 40 = .ok (.iload 5, 2) := by decide +kernel
theorem dX4_note_42 : decode cX4_note 42 = .ok (.iconst 3, 1) := by decide +kernel
theorem dX4_note_43 : decode cX4_note 43 = .ok (.iadd, 1) := by decide +kernel
theorem dX4_note_44 : decode cX4_note 44 = .ok (.iload 4, 2) := by decide +kernel
theorem dX4_note_46 : decode cX4_note 46 = .ok (.iastore, 1) := by decide +kernel
theorem dX4_note_47 : decode cX4_note 47 = .ok (.aload_n 0, 1) := by decide +kernel
theorem dX4_note_48 : decode cX4_note 48 = .ok (.dup, 1) := by decide +kernel
theorem dX4_note_49 : decode cX4_note 49 = .ok (.getfield 95, 3) := by decide +kernel
theorem dX4_note_52 : decode cX4_note 52 = .ok (.iconst 1, 1) := by decide +kernel
theorem dX4_note_53 : decode cX4_note 53 = .ok (.iadd, 1) := by decide +kernel
theorem dX4_note_54 : decode cX4_note 54 = .ok (.putfield 95, 3) := by decide +kernel
theorem dX4_note_57 : decode cX4_note 57 = .ok (.return_, 1) := by decide +kernel
theorem dX4_isValue_0 : decode cX4_isValue 0 = .ok (.iload_n 0, 1) := by decide +kernel
theorem dX4_isValue_1 : decode cX4_isValue 1 = .ok (.ifCond .lt 25, 3) := by decide +kernel
theorem dX4_isValue_4 : decode cX4_isValue 4 = .ok (.iload_n 0, 1) := by decide +kernel
theorem dX4_isValue_5 : decode cX4_isValue 5 = .ok (.sipush 1200, 3) := by decide +kernel
theorem dX4_isValue_8 : decode cX4_isValue 8 = .ok (.if_icmp .gt 18, 3) := by decide +kernel
theorem dX4_isValue_11 : decode cX4_isValue 11 = .ok (.iload_n 1, 1) := by decide +kernel
theorem dX4_isValue_12 : decode cX4_isValue 12 = .ok (.ifCond .lt 14, 3) := by decide +kernel
theorem dX4_isValue_15 : decode cX4_isValue 15 = .ok (.iload_n 1, 1) := by decide +kernel
theorem dX4_isValue_16 : decode cX4_isValue 16 = .ok (.sipush 255, 3) := by decide +kernel
theorem dX4_isValue_19 : decode cX4_isValue 19 = .ok (.if_icmp .gt 7, 3) := by decide +kernel
theorem dX4_isValue_22 : decode cX4_isValue 22 = .ok (.iconst 1, 1) := by decide +kernel
theorem dX4_isValue_23 : decode cX4_isValue 23 = .ok (.goto 4, 3) := by decide +kernel
theorem dX4_isValue_26 : decode cX4_isValue 26 = .ok (.iconst 0, 1) := by decide +kernel
theorem dX4_isValue_27 : decode cX4_isValue 27 = .ok (.ireturn, 1) := by decide +kernel
theorem dX4_insert_0 : decode cX4_insert 0 = .ok (.aload_n 0, 1) := by decide +kernel
theorem dX4_insert_1 : decode cX4_insert 1 = .ok (.iload_n 1, 1) := by decide +kernel
theorem dX4_insert_2 : decode cX4_insert 2 = .ok (.iload_n 2, 1) := by decide +kernel
theorem dX4_insert_3 : decode cX4_insert 3 = .ok (.invokestatic 98, 3) := by decide +kernel
theorem dX4_insert_6 : decode cX4_insert 6 = .ok (.ifCond .ne 7, 3) := by decide +kernel
theorem dX4_insert_9 : decode cX4_insert 9 = .ok (.iconst 1, 1) := by decide +kernel
theorem dX4_insert_10 : decode cX4_insert 10 = .ok (.goto 4, 3) := by decide +kernel
theorem dX4_insert_13 : decode cX4_insert 13 = .ok (.iconst 0, 1) := by decide +kernel
theorem dX4_insert_14 : decode cX4_insert 14 = .ok (.iconst 1, 1) := by decide +kernel
theorem dX4_insert_15 : decode cX4_insert 15 = .ok (.invokevirtual 102, 3) := by decide +kernel
theorem dX4_insert_18 : decode cX4_insert 18 = .ok (.ifCond .eq 5, 3) := by decide +kernel
theorem dX4_insert_21 : decode cX4_insert 21 = .ok (.iconst 0, 1) := by decide +kernel
theorem dX4_insert_22 : decode cX4_insert 22 = .ok (.ireturn, 1) := by decide +kernel
theorem dX4_insert_23 : decode cX4_insert 23 = .ok (.aload_n 0, 1) := by decide +kernel
theorem dX4_insert_24 : decode cX4_insert 24 = .ok (.iload_n 1, 1) := by decide +kernel
theorem dX4_insert_25 : decode cX4_insert 25 = .ok (.iload_n 2, 1) := by decide +kernel
theorem dX4_insert_26 : decode cX4_insert 26 = .ok (.invokevirtual 106, 3) := by decide +kernel
theorem dX4_insert_29 : decode cX4_insert 29 = .ok (.istore_n 3, 1) := by decide +kernel
theorem dX4_insert_30 : decode cX4_insert 30 = .ok (.iload_n 3, 1) := by decide +kernel
theorem dX4_insert_31 : decode cX4_insert 31 = .ok (.iconst (-1), 1) := by decide +kernel
theorem dX4_insert_32 : decode cX4_insert 32 = .ok (.if_icmp .eq 11, 3) := by decide +kernel
theorem dX4_insert_35 : decode cX4_insert 35 = .ok (.aload_n 0, 1) := by decide +kernel
theorem dX4_insert_36 : decode cX4_insert 36 = .ok (.iconst 0, 1) := by decide +kernel
theorem dX4_insert_37 : decode cX4_insert 37 = .ok (.iload_n 3, 1) := by decide +kernel
theorem dX4_insert_38 : decode cX4_insert 38 = .ok (.iload_n 1, 1) := by decide +kernel
theorem dX4_insert_39 : decode cX4_insert 39 = .ok (.iload_n 2, 1) := by decide +kernel
theorem dX4_insert_40 : decode cX4_insert 40 = .ok (.invokevirtual 109, 3) := by decide +kernel
theorem dX4_insert_43 : decode cX4_insert 43 = .ok (.iload_n 3, 1) := by decide +kernel
theorem dX4_insert_44 : decode cX4_insert 44 = .ok (.ireturn, 1) := by decide +kernel
theorem dX4_update_0 : decode cX4_update 0 = .ok (.aload_n 0, 1) := by decide +kernel
theorem dX4_update_1 : decode cX4_update 1 = .ok (.aload_n 0, 1) := by decide +kernel
theorem dX4_update_2 : decode cX4_update 2 = .ok (.iload_n 1, 1) := by decide +kernel
theorem dX4_update_3 : decode cX4_update 3 = .ok (.invokevirtual 112, 3) := by decide +kernel
theorem dX4_update_6 : decode cX4_update 6 = .ok (.ifCond .ne 7, 3) := by decide +kernel
theorem dX4_update_9 : decode cX4_update 9 = .ok (.iconst 1, 1) := by decide +kernel
theorem dX4_update_10 : decode cX4_update 10 = .ok (.goto 4, 3) := by decide +kernel
theorem dX4_update_13 : decode cX4_update 13 = .ok (.iconst 0, 1) := by decide +kernel
theorem dX4_update_14 : decode cX4_update 14 = .ok (.iconst 1, 1) := by decide +kernel
theorem dX4_update_15 : decode cX4_update 15 = .ok (.invokevirtual 102, 3) := by decide +kernel
theorem dX4_update_18 : decode cX4_update 18 = .ok (.ifCond .ne 24, 3) := by decide +kernel
theorem dX4_update_21 : decode cX4_update 21 = .ok (.aload_n 0, 1) := by decide +kernel
theorem dX4_update_22 : decode cX4_update 22 = .ok (.iload_n 2, 1) := by decide +kernel
theorem dX4_update_23 : decode cX4_update 23 = .ok (.iload_n 3, 1) := by decide +kernel
theorem dX4_update_24 : decode cX4_update 24 = .ok (.invokestatic 98, 3) := by decide +kernel
theorem dX4_update_27 : decode cX4_update 27 = .ok (.ifCond .ne 7, 3) := by decide +kernel
theorem dX4_update_30 : decode cX4_update 30 = .ok (.iconst 1, 1) := by decide +kernel
theorem dX4_update_31 : decode cX4_update 31 = .ok (.goto 4, 3) := by decide +kernel
theorem dX4_update_34 : decode cX4_update 34 = .ok (.iconst 0, 1) := by decide +kernel
theorem dX4_update_35 : decode cX4_update 35 = .ok (.iconst 2, 1) := by decide +kernel
theorem dX4_update_36 : decode cX4_update 36 = .ok (.invokevirtual 102, 3) := by decide +kernel
theorem dX4_update_39 : decode cX4_update 39 = .ok (.ifCond .eq 5, 3) := by decide +kernel
theorem dX4_update_42 : decode cX4_update 42 = .ok (.iconst 0, 1) := by decide +kernel
theorem dX4_update_43 : decode cX4_update 43 = .ok (.ireturn, 1) := by decide +kernel
theorem dX4_update_44 : decode cX4_update 44 = .ok (.aload_n 0, 1) := by decide +kernel
theorem dX4_update_45 : decode cX4_update 45 = .ok (.iload_n 1, 1) := by decide +kernel
theorem dX4_update_46 : decode cX4_update 46 = .ok (.iload_n 2, 1) := by decide +kernel
theorem dX4_update_47 : decode cX4_update 47 = .ok (.iload_n 3, 1) := by decide +kernel
theorem dX4_update_48 : decode cX4_update 48 = .ok (.invokevirtual 116, 3) := by decide +kernel
theorem dX4_update_51 : decode cX4_update 51 = .ok (.istore 4, 2) := by decide +kernel
theorem dX4_update_53 : decode cX4_update 53 = .ok (.iload 4, 2) := by decide +kernel
theorem dX4_update_55 : decode cX4_update 55 = .ok (.ifCond .eq 11, 3) := by decide +kernel
theorem dX4_update_58 : decode cX4_update 58 = .ok (.aload_n 0, 1) := by decide +kernel
theorem dX4_update_59 : decode cX4_update 59 = .ok (.iconst 1, 1) := by decide +kernel
theorem dX4_update_60 : decode cX4_update 60 = .ok (.iload_n 1, 1) := by decide +kernel
theorem dX4_update_61 : decode cX4_update 61 = .ok (.iload_n 2, 1) := by decide +kernel
theorem dX4_update_62 : decode cX4_update 62 = .ok (.iload_n 3, 1) := by decide +kernel
theorem dX4_update_63 : decode cX4_update 63 = .ok (.invokevirtual 109, 3) := by decide +kernel
theorem dX4_update_66 : decode cX4_update 66 = .ok (.iload 4, 2) := by decide +kernel
theorem dX4_update_68 : decode cX4_update 68 = .ok (.ireturn, 1) := by decide +kernel
theorem dX4_delete_0 : decode cX4_delete 0 = .ok (.aload_n 0, 1) := by decide +kernel
theorem dX4_delete_1 : decode cX4_delete 1 = .ok (.aload_n 0, 1) := by decide +kernel
theorem dX4_delete_2 : decode cX4_delete 2 = .ok (.iload_n 1, 1) := by decide +kernel
theorem dX4_delete_3 : decode cX4_delete 3 = .ok (.invokevirtual 112, 3) := by decide +kernel
theorem dX4_delete_6 : decode cX4_delete 6 = .ok (.ifCond .ne 7, 3) := by decide +kernel
theorem dX4_delete_9 : decode cX4_delete 9 = .ok (.iconst 1, 1) := by decide +kernel
theorem dX4_delete_10 : decode cX4_delete 10 = .ok (.goto 4, 3) := by decide +kernel
theorem dX4_delete_13 : decode cX4_delete 13 = .ok (.iconst 0, 1) := by decide +kernel
theorem dX4_delete_14 : decode cX4_delete 14 = .ok (.iconst 1, 1) := by decide +kernel
theorem dX4_delete_15 : decode cX4_delete 15 = .ok (.invokevirtual 102, 3) := by decide +kernel
theorem dX4_delete_18 : decode cX4_delete 18 = .ok (.ifCond .eq 5, 3) := by decide +kernel
theorem dX4_delete_21 : decode cX4_delete 21 = .ok (.iconst 0, 1) := by decide +kernel
theorem dX4_delete_22 : decode cX4_delete 22 = .ok (.ireturn, 1) := by decide +kernel
theorem dX4_delete_23 : decode cX4_delete 23 = .ok (.aload_n 0, 1) := by decide +kernel
theorem dX4_delete_24 : decode cX4_delete 24 = .ok (.getfield 7, 3) := by decide +kernel
theorem dX4_delete_27 : decode cX4_delete 27 = .ok (.sipush 9600, 3) := by decide +kernel
theorem dX4_delete_30 : decode cX4_delete 30 = .ok (.iload_n 1, 1) := by decide +kernel
theorem dX4_delete_31 : decode cX4_delete 31 = .ok (.iadd, 1) := by decide +kernel
theorem dX4_delete_32 : decode cX4_delete 32 = .ok (.iaload, 1) := by decide +kernel
theorem dX4_delete_33 : decode cX4_delete 33 = .ok (.istore_n 2, 1) := by decide +kernel
theorem dX4_delete_34 : decode cX4_delete 34 = .ok (.aload_n 0, 1) := by decide +kernel
theorem dX4_delete_35 : decode cX4_delete 35 = .ok (.iload_n 1, 1) := by decide +kernel
theorem dX4_delete_36 : decode cX4_delete 36 = .ok (.invokevirtual 119, 3) := by decide +kernel
theorem dX4_delete_39 : decode cX4_delete 39 = .ok (.aload_n 0, 1) := by decide +kernel
theorem dX4_delete_40 : decode cX4_delete 40 = .ok (.iconst 2, 1) := by decide +kernel
theorem dX4_delete_41 : decode cX4_delete 41 = .ok (.iload_n 1, 1) := by decide +kernel
theorem dX4_delete_42 : decode cX4_delete 42 = .ok (.iconst 0, 1) := by decide +kernel
theorem dX4_delete_43 : decode cX4_delete 43 = .ok (.iconst 0, 1) := by decide +kernel
theorem dX4_delete_44 : decode cX4_delete 44 = .ok (.invokevirtual 109, 3) := by decide +kernel
theorem dX4_delete_47 : decode cX4_delete 47 = .ok (.iload_n 2, 1) := by decide +kernel
theorem dX4_delete_48 : decode cX4_delete 48 = .ok (.ireturn, 1) := by decide +kernel
theorem dX4_length_0 : decode cX4_length 0 = .ok (.aload_n 0, 1) := by decide +kernel
theorem dX4_length_1 : decode cX4_length 1 = .ok (.iconst 0, 1) := by decide +kernel
theorem dX4_length_2 : decode cX4_length 2 = .ok (.putfield 23, 3) := by decide +kernel
theorem dX4_length_5 : decode cX4_length 5 = .ok (.aload_n 0, 1) := by decide +kernel
theorem dX4_length_6 : decode cX4_length 6 = .ok (.iload_n 1, 1) := by decide +kernel
theorem dX4_length_7 : decode cX4_length 7 = .ok (.invokevirtual 112, 3) := by decide +kernel
theorem dX4_length_10 : decode cX4_length 10 = .ok (.ifCond .eq 16, 3) := by decide +kernel
theorem dX4_length_13 : decode cX4_length 13 = .ok (.aload_n 0, 1) := by decide +kernel
theorem dX4_length_14 : decode cX4_length 14 = .ok (.getfield 7, 3) := by decide +kernel
theorem dX4_length_17 : decode cX4_length 17 = .ok (.sipush 9600, 3) := by decide +kernel
theorem dX4_length_20 : decode cX4_length 20 = .ok (.iload_n 1, 1) := by decide +kernel
theorem dX4_length_21 : decode cX4_length 21 = .ok (.iadd, 1) := by decide +kernel
theorem dX4_length_22 : decode cX4_length 22 = .ok (.iaload, 1) := by decide +kernel
theorem dX4_length_23 : decode cX4_length 23 = .ok (.goto 4, 3) := by decide +kernel
theorem dX4_length_26 : decode cX4_length 26 = .ok (.iconst (-1), 1) := by decide +kernel
theorem dX4_length_27 : decode cX4_length 27 = .ok (.ireturn, 1) := by decide +kernel
theorem dX4_byteAt_0 : decode cX4_byteAt 0 = .ok (.aload_n 0, 1) := by decide +kernel
theorem dX4_byteAt_1 : decode cX4_byteAt 1 = .ok (.aload_n 0, 1) := by decide +kernel
theorem dX4_byteAt_2 : decode cX4_byteAt 2 = .ok (.iload_n 1, 1) := by decide +kernel
theorem dX4_byteAt_3 : decode cX4_byteAt 3 = .ok (.invokevirtual 112, 3) := by decide +kernel
theorem dX4_byteAt_6 : decode cX4_byteAt 6 = .ok (.ifCond .ne 7, 3) := by decide +kernel
theorem dX4_byteAt_9 : decode cX4_byteAt 9 = .ok (.iconst 1, 1) := by decide +kernel
theorem dX4_byteAt_10 : decode cX4_byteAt 10 = .ok (.goto 4, 3) := by decide +kernel
theorem dX4_byteAt_13 : decode cX4_byteAt 13 = .ok (.iconst 0, 1) := by decide +kernel
theorem dX4_byteAt_14 : decode cX4_byteAt 14 = .ok (.iconst 1, 1) := by decide +kernel
theorem dX4_byteAt_15 : decode cX4_byteAt 15 = .ok (.invokevirtual 102, 3) := by decide +kernel
theorem dX4_byteAt_18 : decode cX4_byteAt 18 = .ok (.ifCond .eq 5, 3) := by decide +kernel
theorem dX4_byteAt_21 : decode cX4_byteAt 21 = .ok (.iconst 0, 1) := by decide +kernel
theorem dX4_byteAt_22 : decode cX4_byteAt 22 = .ok (.ireturn, 1) := by decide +kernel
theorem dX4_byteAt_23 : decode cX4_byteAt 23 = .ok (.iload_n 2, 1) := by decide +kernel
theorem dX4_byteAt_24 : decode cX4_byteAt 24 = .ok (.ifCond .lt 44, 3) := by decide +kernel
theorem dX4_byteAt_27 : decode cX4_byteAt 27 = .ok (.iload_n 2, 1) := by decide +kernel
theorem dX4_byteAt_28 : decode cX4_byteAt 28 = .ok (.aload_n 0, 1) := by decide +kernel
theorem dX4_byteAt_29 : decode cX4_byteAt 29 = .ok (.getfield 7, 3) := by decide +kernel
theorem dX4_byteAt_32 : decode cX4_byteAt 32 = .ok (.sipush 9600, 3) := by decide +kernel
theorem dX4_byteAt_35 : decode cX4_byteAt 35 = .ok (.iload_n 1, 1) := by decide +kernel
theorem dX4_byteAt_36 : decode cX4_byteAt 36 = .ok (.iadd, 1) := by decide +kernel
theorem dX4_byteAt_37 : decode cX4_byteAt 37 = .ok (.iaload, 1) := by decide +kernel
theorem dX4_byteAt_38 : decode cX4_byteAt 38 = .ok (.if_icmp .ge 30, 3) := by decide +kernel
theorem dX4_byteAt_41 : decode cX4_byteAt 41 = .ok (.aload_n 0, 1) := by decide +kernel
theorem dX4_byteAt_42 : decode cX4_byteAt 42 = .ok (.getfield 7, 3) := by decide +kernel
theorem dX4_byteAt_45 : decode cX4_byteAt 45 = .ok (.sipush 12672, 3) := by decide +kernel
theorem dX4_byteAt_48 : decode cX4_byteAt 48 = .ok (.iload_n 1, 1) := by decide +kernel
theorem dX4_byteAt_49 : decode cX4_byteAt 49 = .ok (.iadd, 1) := by decide +kernel
theorem dX4_byteAt_50 : decode cX4_byteAt 50 = .ok (.iaload, 1) := by decide +kernel
theorem dX4_byteAt_51 : decode cX4_byteAt 51 = .ok (.bipush 7, 2) := by decide +kernel
theorem dX4_byteAt_53 : decode cX4_byteAt 53 = .ok (.iload_n 2, 1) := by decide +kernel
theorem dX4_byteAt_54 : decode cX4_byteAt 54 = .ok (.imul, 1) := by decide +kernel
theorem dX4_byteAt_55 : decode cX4_byteAt 55 = .ok (.iadd, 1) := by decide +kernel
theorem dX4_byteAt_56 : decode cX4_byteAt 56 = .ok (.iload_n 2, 1) := by decide +kernel
theorem dX4_byteAt_57 : decode cX4_byteAt 57 = .ok (.bipush 16, 2) := by decide +kernel
theorem dX4_byteAt_59 : decode cX4_byteAt 59 = .ok (.idiv, 1) := by decide +kernel
theorem dX4_byteAt_60 : decode cX4_byteAt 60 = .ok (.iadd, 1) := by decide +kernel
theorem dX4_byteAt_61 : decode cX4_byteAt 61 = .ok (.sipush 256, 3) := by decide +kernel
theorem dX4_byteAt_64 : decode cX4_byteAt 64 = .ok (.irem, 1) := by decide +kernel
theorem dX4_byteAt_65 : decode cX4_byteAt 65 = .ok (.goto 4, 3) := by decide +kernel
theorem dX4_byteAt_68 : decode cX4_byteAt 68 = .ok (.iconst (-1), 1) := by decide +kernel
theorem dX4_byteAt_69 : decode cX4_byteAt 69 = .ok (.ireturn, 1) := by decide +kernel
theorem dX4_where_0 : decode cX4_where 0 = .ok (.aload_n 0, 1) := by decide +kernel
theorem dX4_where_1 : decode cX4_where 1 = .ok (.aload_n 0, 1) := by decide +kernel
theorem dX4_where_2 : decode cX4_where 2 = .ok (.iload_n 1, 1) := by decide +kernel
theorem dX4_where_3 : decode cX4_where 3 = .ok (.invokevirtual 112, 3) := by decide +kernel
theorem dX4_where_6 : decode cX4_where 6 = .ok (.ifCond .ne 7, 3) := by decide +kernel
theorem dX4_where_9 : decode cX4_where 9 = .ok (.iconst 1, 1) := by decide +kernel
theorem dX4_where_10 : decode cX4_where 10 = .ok (.goto 4, 3) := by decide +kernel
theorem dX4_where_13 : decode cX4_where 13 = .ok (.iconst 0, 1) := by decide +kernel
theorem dX4_where_14 : decode cX4_where 14 = .ok (.iconst 1, 1) := by decide +kernel
theorem dX4_where_15 : decode cX4_where 15 = .ok (.invokevirtual 102, 3) := by decide +kernel
theorem dX4_where_18 : decode cX4_where 18 = .ok (.ifCond .ne 25, 3) := by decide +kernel
theorem dX4_where_21 : decode cX4_where 21 = .ok (.aload_n 0, 1) := by decide +kernel
theorem dX4_where_22 : decode cX4_where 22 = .ok (.iload_n 2, 1) := by decide +kernel
theorem dX4_where_23 : decode cX4_where 23 = .ok (.ifCond .lt 8, 3) := by decide +kernel
theorem dX4_where_26 : decode cX4_where 26 = .ok (.iload_n 2, 1) := by decide +kernel
theorem dX4_where_27 : decode cX4_where 27 = .ok (.iconst 3, 1) := by decide +kernel
theorem dX4_where_28 : decode cX4_where 28 = .ok (.if_icmp .le 7, 3) := by decide +kernel
theorem dX4_where_31 : decode cX4_where 31 = .ok (.iconst 1, 1) := by decide +kernel
theorem dX4_where_32 : decode cX4_where 32 = .ok (.goto 4, 3) := by decide +kernel
theorem dX4_where_35 : decode cX4_where 35 = .ok (.iconst 0, 1) := by decide +kernel
theorem dX4_where_36 : decode cX4_where 36 = .ok (.iconst 2, 1) := by decide +kernel
theorem dX4_where_37 : decode cX4_where 37 = .ok (.invokevirtual 102, 3) := by decide +kernel
theorem dX4_where_40 : decode cX4_where 40 = .ok (.ifCond .eq 5, 3) := by decide +kernel
theorem dX4_where_43 : decode cX4_where 43 = .ok (.iconst 0, 1) := by decide +kernel
theorem dX4_where_44 : decode cX4_where 44 = .ok (.ireturn, 1) := by decide +kernel
theorem dX4_where_45 : decode cX4_where 45 = .ok (.aload_n 0, 1) := by decide +kernel
theorem dX4_where_46 : decode cX4_where 46 = .ok (.getfield 7, 3) := by decide +kernel
theorem dX4_where_49 : decode cX4_where 49 = .ok (.sipush 6528, 3) := by decide +kernel
theorem dX4_where_52 : decode cX4_where 52 = .ok (.iload_n 1, 1) := by decide +kernel
theorem dX4_where_53 : decode cX4_where 53 = .ok (.iadd, 1) := by decide +kernel
theorem dX4_where_54 : decode cX4_where 54 = .ok (.iaload, 1) := by decide +kernel
theorem dX4_where_55 : decode cX4_where 55 = .ok (.istore_n 3, 1) := by decide +kernel
theorem dX4_where_56 : decode cX4_where 56 = .ok (.iload_n 2, 1) := by decide +kernel
theorem dX4_where_57 : decode cX4_where 57 = .ok (.ifCond .ne 10, 3) := by decide +kernel
theorem dX4_where_60 : decode cX4_where 60 = .ok (.iload_n 3, 1) := by decide +kernel
theorem dX4_where_61 : decode cX4_where 61 = .ok (.bipush 32, 2) := by decide +kernel
theorem dX4_where_63 : decode cX4_where 63 = .ok (.idiv, 1) := by decide +kernel
theorem dX4_where_64 : decode cX4_where 64 = .ok (.goto 46, 3) := by decide +kernel
theorem dX4_where_67 : decode cX4_where 67 = .ok (.iload_n 2, 1) := by decide +kernel
theorem dX4_where_68 : decode cX4_where 68 = .ok (.iconst 1, 1) := by decide +kernel
theorem dX4_where_69 : decode cX4_where 69 = .ok (.if_icmp .ne 10, 3) := by decide +kernel
theorem dX4_where_72 : decode cX4_where 72 = .ok (.iload_n 3, 1) := by decide +kernel
theorem dX4_where_73 : decode cX4_where 73 = .ok (.bipush 32, 2) := by decide +kernel
theorem dX4_where_75 : decode cX4_where 75 = .ok (.irem, 1) := by decide +kernel
theorem dX4_where_76 : decode cX4_where 76 = .ok (.goto 34, 3) := by decide +kernel
theorem dX4_where_79 : decode cX4_where 79 = .ok (.iload_n 2, 1) := by decide +kernel
theorem dX4_where_80 : decode cX4_where 80 = .ok (.iconst 2, 1) := by decide +kernel
theorem dX4_where_81 : decode cX4_where 81 = .ok (.if_icmp .ne 19, 3) := by decide +kernel
theorem dX4_where_84 : decode cX4_where 84 = .ok (.aload_n 0, 1) := by decide +kernel
theorem dX4_where_85 : decode cX4_where 85 = .ok (.getfield 7, 3) := by decide +kernel
theorem dX4_where_88 : decode cX4_where 88 = .ok (.sipush 9600, 3) := by decide +kernel
theorem dX4_where_91 : decode cX4_where 91 = .ok (.iload_n 1, 1) := by decide +kernel
theorem dX4_where_92 : decode cX4_where 92 = .ok (.iadd, 1) := by decide +kernel
theorem dX4_where_93 : decode cX4_where 93 = .ok (.iaload, 1) := by decide +kernel
theorem dX4_where_94 : decode cX4_where 94 = .ok (.invokestatic 55, 3) := by decide +kernel
theorem dX4_where_97 : decode cX4_where 97 = .ok (.goto 13, 3) := by decide +kernel
theorem dX4_where_100 : decode cX4_where 100 = .ok (.aload_n 0, 1) := by decide +kernel
theorem dX4_where_101 : decode cX4_where 101 = .ok (.getfield 7, 3) := by decide +kernel
theorem dX4_where_104 : decode cX4_where 104 = .ok (.sipush 15744, 3) := by decide +kernel
theorem dX4_where_107 : decode cX4_where 107 = .ok (.iload_n 1, 1) := by decide +kernel
theorem dX4_where_108 : decode cX4_where 108 = .ok (.iadd, 1) := by decide +kernel
theorem dX4_where_109 : decode cX4_where 109 = .ok (.iaload, 1) := by decide +kernel
theorem dX4_where_110 : decode cX4_where 110 = .ok (.ireturn, 1) := by decide +kernel
theorem dX4_next_0 : decode cX4_next 0 = .ok (.aload_n 0, 1) := by decide +kernel
theorem dX4_next_1 : decode cX4_next 1 = .ok (.iconst 0, 1) := by decide +kernel
theorem dX4_next_2 : decode cX4_next 2 = .ok (.putfield 23, 3) := by decide +kernel
theorem dX4_next_5 : decode cX4_next 5 = .ok (.iconst 0, 1) := by decide +kernel
theorem dX4_next_6 : decode cX4_next 6 = .ok (.istore_n 2, 1) := by decide +kernel
theorem dX4_next_7 : decode cX4_next 7 = .ok (.iload_n 2, 1) := by decide +kernel
theorem dX4_next_8 : decode cX4_next 8 = .ok (.sipush 3072, 3) := by decide +kernel
theorem dX4_next_11 : decode cX4_next 11 = .ok (.if_icmp .ge 24, 3) := by decide +kernel
theorem dX4_next_14 : decode cX4_next 14 = .ok (.iload_n 2, 1) := by decide +kernel
theorem dX4_next_15 : decode cX4_next 15 = .ok (.iload_n 1, 1) := by decide +kernel
theorem dX4_next_16 : decode cX4_next 16 = .ok (.if_icmp .le 13, 3) := by decide +kernel
theorem dX4_next_19 : decode cX4_next 19 = .ok (.aload_n 0, 1) := by decide +kernel
theorem dX4_next_20 : decode cX4_next 20 = .ok (.iload_n 2, 1) := by decide +kernel
theorem dX4_next_21 : decode cX4_next 21 = .ok (.invokevirtual 112, 3) := by decide +kernel
theorem dX4_next_24 : decode cX4_next 24 = .ok (.ifCond .eq 5, 3) := by decide +kernel
theorem dX4_next_27 : decode cX4_next 27 = .ok (.iload_n 2, 1) := by decide +kernel
theorem dX4_next_28 : decode cX4_next 28 = .ok (.ireturn, 1) := by decide +kernel
theorem dX4_next_29 : decode cX4_next 29 = .ok (.iinc 2 1, 3) := by decide +kernel
theorem dX4_next_32 : decode cX4_next 32 = .ok (.goto (-25), 3) := by decide +kernel
theorem dX4_next_35 : decode cX4_next 35 = .ok (.iconst (-1), 1) := by decide +kernel
theorem dX4_next_36 : decode cX4_next 36 = .ok (.ireturn, 1) := by decide +kernel
theorem dX4_kindOf_0 : decode cX4_kindOf 0 = .ok (.aload_n 0, 1) := by decide +kernel
theorem dX4_kindOf_1 : decode cX4_kindOf 1 = .ok (.iload_n 1, 1) := by decide +kernel
theorem dX4_kindOf_2 : decode cX4_kindOf 2 = .ok (.iload_n 2, 1) := by decide +kernel
theorem dX4_kindOf_3 : decode cX4_kindOf 3 = .ok (.invokevirtual 27, 3) := by decide +kernel
theorem dX4_kindOf_6 : decode cX4_kindOf 6 = .ok (.ifCond .ne 5, 3) := by decide +kernel
theorem dX4_kindOf_9 : decode cX4_kindOf 9 = .ok (.iconst 0, 1) := by decide +kernel
theorem dX4_kindOf_10 : decode cX4_kindOf 10 = .ok (.ireturn, 1) := by decide +kernel
theorem dX4_kindOf_11 : decode cX4_kindOf 11 = .ok (.aload_n 0, 1) := by decide +kernel
theorem dX4_kindOf_12 : decode cX4_kindOf 12 = .ok (.getfield 7, 3) := by decide +kernel
theorem dX4_kindOf_15 : decode cX4_kindOf 15 = .ok (.sipush 3456, 3) := by decide +kernel
theorem dX4_kindOf_18 : decode cX4_kindOf 18 = .ok (.bipush 32, 2) := by decide +kernel
theorem dX4_kindOf_20 : decode cX4_kindOf 20 = .ok (.iload_n 1, 1) := by decide +kernel
theorem dX4_kindOf_21 : decode cX4_kindOf 21 = .ok (.imul, 1) := by decide +kernel
theorem dX4_kindOf_22 : decode cX4_kindOf 22 = .ok (.iadd, 1) := by decide +kernel
theorem dX4_kindOf_23 : decode cX4_kindOf 23 = .ok (.iload_n 2, 1) := by decide +kernel
theorem dX4_kindOf_24 : decode cX4_kindOf 24 = .ok (.iadd, 1) := by decide +kernel
theorem dX4_kindOf_25 : decode cX4_kindOf 25 = .ok (.iaload, 1) := by decide +kernel
theorem dX4_kindOf_26 : decode cX4_kindOf 26 = .ok (.istore_n 3, 1) := by decide +kernel
theorem dX4_kindOf_27 : decode cX4_kindOf 27 = .ok (.bipush 32, 2) := by decide +kernel
theorem dX4_kindOf_29 : decode cX4_kindOf 29 = .ok (.iload_n 1, 1) := by decide +kernel
theorem dX4_kindOf_30 : decode cX4_kindOf 30 = .ok (.imul, 1) := by decide +kernel
theorem dX4_kindOf_31 : decode cX4_kindOf 31 = .ok (.iload_n 2, 1) := by decide +kernel
theorem dX4_kindOf_32 : decode cX4_kindOf 32 = .ok (.iadd, 1) := by decide +kernel
theorem dX4_kindOf_33 : decode cX4_kindOf 33 = .ok (.istore 4, 2) := by decide +kernel
theorem dX4_kindOf_35 : decode cX4_kindOf 35 = .ok (.iload_n 3, 1) := by decide +kernel
theorem dX4_kindOf_36 : decode cX4_kindOf 36 = .ok (.iload 4, 2) := by decide +kernel
theorem dX4_kindOf_38 : decode cX4_kindOf 38 = .ok (.if_icmp .eq 7, 3) := by decide +kernel
theorem dX4_kindOf_41 : decode cX4_kindOf 41 = .ok (.iconst 3, 1) := by decide +kernel
theorem dX4_kindOf_42 : decode cX4_kindOf 42 = .ok (.goto 23, 3) := by decide +kernel
theorem dX4_kindOf_45 : decode cX4_kindOf 45 = .ok (.aload_n 0, 1) := by decide +kernel
theorem dX4_kindOf_46 : decode cX4_kindOf 46 = .ok (.getfield 7, 3) := by decide +kernel
theorem dX4_kindOf_49 : decode cX4_kindOf 49 = .ok (.sipush 6528, 3) := by decide +kernel
theorem dX4_kindOf_52 : decode cX4_kindOf 52 = .ok (.iload_n 3, 1) := by decide +kernel
theorem dX4_kindOf_53 : decode cX4_kindOf 53 = .ok (.iadd, 1) := by decide +kernel
theorem dX4_kindOf_54 : decode cX4_kindOf 54 = .ok (.iaload, 1) := by decide +kernel
theorem dX4_kindOf_55 : decode cX4_kindOf 55 = .ok (.iload 4, 2) := by decide +kernel
theorem dX4_kindOf_57 : decode cX4_kindOf 57 = .ok (.if_icmp .ne 7, 3) := by decide +kernel
theorem dX4_kindOf_60 : decode cX4_kindOf 60 = .ok (.iconst 1, 1) := by decide +kernel
theorem dX4_kindOf_61 : decode cX4_kindOf 61 = .ok (.goto 4, 3) := by decide +kernel
theorem dX4_kindOf_64 : decode cX4_kindOf 64 = .ok (.iconst 2, 1) := by decide +kernel
theorem dX4_kindOf_65 : decode cX4_kindOf 65 = .ok (.ireturn, 1) := by decide +kernel
theorem dX4_stubs_0 : decode cX4_stubs 0 = .ok (.iconst 0, 1) := by decide +kernel
theorem dX4_stubs_1 : decode cX4_stubs 1 = .ok (.istore_n 2, 1) := by decide +kernel
theorem dX4_stubs_2 : decode cX4_stubs 2 = .ok (.iconst 0, 1) := by decide +kernel
theorem dX4_stubs_3 : decode cX4_stubs 3 = .ok (.istore_n 3, 1) := by decide +kernel
theorem dX4_stubs_4 : decode cX4_stubs 4 = .ok (.iload_n 3, 1) := by decide +kernel
theorem dX4_stubs_5 : decode cX4_stubs 5 = .ok (.bipush 32, 2) := by decide +kernel
theorem dX4_stubs_7 : decode cX4_stubs 7 = .ok (.if_icmp .ge 27, 3) := by decide +kernel
theorem dX4_stubs_10 : decode cX4_stubs 10 = .ok (.iload_n 2, 1) := by decide +kernel
theorem dX4_stubs_11 : decode cX4_stubs 11 = .ok (.aload_n 0, 1) := by decide +kernel
theorem dX4_stubs_12 : decode cX4_stubs 12 = .ok (.iload_n 1, 1) := by decide +kernel
theorem dX4_stubs_13 : decode cX4_stubs 13 = .ok (.iload_n 3, 1) := by decide +kernel
theorem dX4_stubs_14 : decode cX4_stubs 14 = .ok (.invokevirtual 122, 3) := by decide +kernel
theorem dX4_stubs_17 : decode cX4_stubs 17 = .ok (.iconst 2, 1) := by decide +kernel
theorem dX4_stubs_18 : decode cX4_stubs 18 = .ok (.if_icmp .ne 7, 3) := by decide +kernel
theorem dX4_stubs_21 : decode cX4_stubs 21 = .ok (.iconst 1, 1) := by decide +kernel
theorem dX4_stubs_22 : decode cX4_stubs 22 = .ok (.goto 4, 3) := by decide +kernel
theorem dX4_stubs_25 : decode cX4_stubs 25 = .ok (.iconst 0, 1) := by decide +kernel
theorem dX4_stubs_26 : decode cX4_stubs 26 = .ok (.iadd, 1) := by decide +kernel
theorem dX4_stubs_27 : decode cX4_stubs 27 = .ok (.istore_n 2, 1) := by decide +kernel
theorem dX4_stubs_28 : decode cX4_stubs 28 = .ok (.iinc 3 1, 3) := by decide +kernel
theorem dX4_stubs_31 : decode cX4_stubs 31 = .ok (.goto (-27), 3) := by decide +kernel
theorem dX4_stubs_34 : decode cX4_stubs 34 = .ok (.iload_n 2, 1) := by decide +kernel
theorem dX4_stubs_35 : decode cX4_stubs 35 = .ok (.ireturn, 1) := by decide +kernel
theorem dX4_page_0 : decode cX4_page 0 = .ok (.aload_n 0, 1) := by decide +kernel
theorem dX4_page_1 : decode cX4_page 1 = .ok (.iload_n 1, 1) := by decide +kernel
theorem dX4_page_2 : decode cX4_page 2 = .ok (.ifCond .lt 19, 3) := by decide +kernel
theorem dX4_page_5 : decode cX4_page 5 = .ok (.iload_n 1, 1) := by decide +kernel
theorem dX4_page_6 : decode cX4_page 6 = .ok (.bipush 96, 2) := by decide +kernel
theorem dX4_page_8 : decode cX4_page 8 = .ok (.if_icmp .ge 13, 3) := by decide +kernel
theorem dX4_page_11 : decode cX4_page 11 = .ok (.iload_n 2, 1) := by decide +kernel
theorem dX4_page_12 : decode cX4_page 12 = .ok (.ifCond .lt 9, 3) := by decide +kernel
theorem dX4_page_15 : decode cX4_page 15 = .ok (.iload_n 2, 1) := by decide +kernel
theorem dX4_page_16 : decode cX4_page 16 = .ok (.bipush 8, 2) := by decide +kernel
theorem dX4_page_18 : decode cX4_page 18 = .ok (.if_icmp .le 7, 3) := by decide +kernel
theorem dX4_page_21 : decode cX4_page 21 = .ok (.iconst 1, 1) := by decide +kernel
theorem dX4_page_22 : decode cX4_page 22 = .ok (.goto 4, 3) := by decide +kernel
theorem dX4_page_25 : decode cX4_page 25 = .ok (.iconst 0, 1) := by decide +kernel
theorem dX4_page_26 : decode cX4_page 26 = .ok (.iconst 1, 1) := by decide +kernel
theorem dX4_page_27 : decode cX4_page 27 = .ok (.invokevirtual 102, 3) := by decide +kernel
theorem dX4_page_30 : decode cX4_page 30 = .ok (.ifCond .eq 5, 3) := by decide +kernel
theorem dX4_page_33 : decode cX4_page 33 = .ok (.iconst 0, 1) := by decide +kernel
theorem dX4_page_34 : decode cX4_page 34 = .ok (.ireturn, 1) := by decide +kernel
theorem dX4_page_35 : decode cX4_page 35 = .ok (.iload_n 2, 1) := by decide +kernel
theorem dX4_page_36 : decode cX4_page 36 = .ok (.ifCond .ne 10, 3) := by decide +kernel
theorem dX4_page_39 : decode cX4_page 39 = .ok (.aload_n 0, 1) := by decide +kernel
theorem dX4_page_40 : decode cX4_page 40 = .ok (.getfield 7, 3) := by decide +kernel
theorem dX4_page_43 : decode cX4_page 43 = .ok (.iload_n 1, 1) := by decide +kernel
theorem dX4_page_44 : decode cX4_page 44 = .ok (.iaload, 1) := by decide +kernel
theorem dX4_page_45 : decode cX4_page 45 = .ok (.ireturn, 1) := by decide +kernel
theorem dX4_page_46 : decode cX4_page 46 = .ok (.aload_n 0, 1) := by decide +kernel
theorem dX4_page_47 : decode cX4_page 47 = .ok (.getfield 7, 3) := by decide +kernel
theorem dX4_page_50 : decode cX4_page 50 = .ok (.iload_n 1, 1) := by decide +kernel
theorem dX4_page_51 : decode cX4_page 51 = .ok (.iaload, 1) := by decide +kernel
theorem dX4_page_52 : decode cX4_page 52 = .ok (.iload_n 2, 1) := by decide +kernel
theorem dX4_page_53 : decode cX4_page 53 = .ok (.bipush 7, 2) := by decide +kernel
theorem dX4_page_55 : decode cX4_page 55 = .ok (.if_icmp .ge 7, 3) := by decide +kernel
theorem dX4_page_58 : decode cX4_page 58 = .ok (.iconst 1, 1) := by decide +kernel
theorem dX4_page_59 : decode cX4_page 59 = .ok (.goto 4, 3) := by decide +kernel
theorem dX4_page_62 : decode cX4_page 62 = .ok (.iconst 2, 1) := by decide +kernel
theorem dX4_page_63 : decode cX4_page 63 = .ok (.if_icmp .eq 5, 3) := by decide +kernel
theorem dX4_page_66 : decode cX4_page 66 = .ok (.iconst (-1), 1) := by decide +kernel
theorem dX4_page_67 : decode cX4_page 67 = .ok (.ireturn, 1) := by decide +kernel
theorem dX4_page_68 : decode cX4_page 68 = .ok (.iload_n 2, 1) := by decide +kernel
theorem dX4_page_69 : decode cX4_page 69 = .ok (.tableswitch 97 1 7 #[43, 49, 55, 61, 71, 80, 86], 43) := by decide +kernel
theorem dX4_page_112 : decode cX4_page 112 = .ok (.aload_n 0, 1) := by decide +kernel
theorem dX4_page_113 : decode cX4_page 113 = .ok (.iload_n 1, 1) := by decide +kernel
theorem dX4_page_114 : decode cX4_page 114 = .ok (.invokevirtual 31, 3) := by decide +kernel
theorem dX4_page_117 : decode cX4_page 117 = .ok (.ireturn, 1) := by decide +kernel
theorem dX4_page_118 : decode cX4_page 118 = .ok (.aload_n 0, 1) := by decide +kernel
theorem dX4_page_119 : decode cX4_page 119 = .ok (.iload_n 1, 1) := by decide +kernel
theorem dX4_page_120 : decode cX4_page 120 = .ok (.invokevirtual 45, 3) := by decide +kernel
theorem dX4_page_123 : decode cX4_page 123 = .ok (.ireturn, 1) := by decide +kernel
theorem dX4_page_124 : decode cX4_page 124 = .ok (.aload_n 0, 1) := by decide +kernel
theorem dX4_page_125 : decode cX4_page 125 = .ok (.iload_n 1, 1) := by decide +kernel
theorem dX4_page_126 : decode cX4_page 126 = .ok (.invokevirtual 48, 3) := by decide +kernel
theorem dX4_page_129 : decode cX4_page 129 = .ok (.ireturn, 1) := by decide +kernel
theorem dX4_page_130 : decode cX4_page 130 = .ok (.aload_n 0, 1) := by decide +kernel
theorem dX4_page_131 : decode cX4_page 131 = .ok (.getfield 7, 3) := by decide +kernel
theorem dX4_page_134 : decode cX4_page 134 = .ok (.bipush 96, 2) := by decide +kernel
theorem dX4_page_136 : decode cX4_page 136 = .ok (.iload_n 1, 1) := by decide +kernel
theorem dX4_page_137 : decode cX4_page 137 = .ok (.iadd, 1) := by decide +kernel
theorem dX4_page_138 : decode cX4_page 138 = .ok (.iaload, 1) := by decide +kernel
theorem dX4_page_139 : decode cX4_page 139 = .ok (.ireturn, 1) := by decide +kernel
theorem dX4_page_140 : decode cX4_page 140 = .ok (.aload_n 0, 1) := by decide +kernel
theorem dX4_page_141 : decode cX4_page 141 = .ok (.iload_n 1, 1) := by decide +kernel
theorem dX4_page_142 : decode cX4_page 142 = .ok (.invokevirtual 48, 3) := by decide +kernel
theorem dX4_page_145 : decode cX4_page 145 = .ok (.bipush 31, 2) := by decide +kernel
theorem dX4_page_147 : decode cX4_page 147 = .ok (.idiv, 1) := by decide +kernel
theorem dX4_page_148 : decode cX4_page 148 = .ok (.ireturn, 1) := by decide +kernel
theorem dX4_page_149 : decode cX4_page 149 = .ok (.aload_n 0, 1) := by decide +kernel
theorem dX4_page_150 : decode cX4_page 150 = .ok (.iload_n 1, 1) := by decide +kernel
theorem dX4_page_151 : decode cX4_page 151 = .ok (.invokevirtual 125, 3) := by decide +kernel
theorem dX4_page_154 : decode cX4_page 154 = .ok (.ireturn, 1) := by decide +kernel
theorem dX4_page_155 : decode cX4_page 155 = .ok (.aload_n 0, 1) := by decide +kernel
theorem dX4_page_156 : decode cX4_page 156 = .ok (.getfield 7, 3) := by decide +kernel
theorem dX4_page_159 : decode cX4_page 159 = .ok (.sipush 192, 3) := by decide +kernel
theorem dX4_page_162 : decode cX4_page 162 = .ok (.iload_n 1, 1) := by decide +kernel
theorem dX4_page_163 : decode cX4_page 163 = .ok (.iadd, 1) := by decide +kernel
theorem dX4_page_164 : decode cX4_page 164 = .ok (.iaload, 1) := by decide +kernel
theorem dX4_page_165 : decode cX4_page 165 = .ok (.ireturn, 1) := by decide +kernel
theorem dX4_page_166 : decode cX4_page 166 = .ok (.aload_n 0, 1) := by decide +kernel
theorem dX4_page_167 : decode cX4_page 167 = .ok (.getfield 7, 3) := by decide +kernel
theorem dX4_page_170 : decode cX4_page 170 = .ok (.sipush 288, 3) := by decide +kernel
theorem dX4_page_173 : decode cX4_page 173 = .ok (.iload_n 1, 1) := by decide +kernel
theorem dX4_page_174 : decode cX4_page 174 = .ok (.iadd, 1) := by decide +kernel
theorem dX4_page_175 : decode cX4_page 175 = .ok (.iaload, 1) := by decide +kernel
theorem dX4_page_176 : decode cX4_page 176 = .ok (.ireturn, 1) := by decide +kernel
theorem dX4_slot_0 : decode cX4_slot 0 = .ok (.aload_n 0, 1) := by decide +kernel
theorem dX4_slot_1 : decode cX4_slot 1 = .ok (.iload_n 1, 1) := by decide +kernel
theorem dX4_slot_2 : decode cX4_slot 2 = .ok (.ifCond .lt 13, 3) := by decide +kernel
theorem dX4_slot_5 : decode cX4_slot 5 = .ok (.iload_n 1, 1) := by decide +kernel
theorem dX4_slot_6 : decode cX4_slot 6 = .ok (.bipush 96, 2) := by decide +kernel
theorem dX4_slot_8 : decode cX4_slot 8 = .ok (.if_icmp .ge 7, 3) := by decide +kernel
theorem dX4_slot_11 : decode cX4_slot 11 = .ok (.iload_n 2, 1) := by decide +kernel
theorem dX4_slot_12 : decode cX4_slot 12 = .ok (.ifCond .ge 7, 3) := by decide +kernel
theorem dX4_slot_15 : decode cX4_slot 15 = .ok (.iconst 1, 1) := by decide +kernel
theorem dX4_slot_16 : decode cX4_slot 16 = .ok (.goto 4, 3) := by decide +kernel
theorem dX4_slot_19 : decode cX4_slot 19 = .ok (.iconst 0, 1) := by decide +kernel
theorem dX4_slot_20 : decode cX4_slot 20 = .ok (.iconst 1, 1) := by decide +kernel
theorem dX4_slot_21 : decode cX4_slot 21 = .ok (.invokevirtual 102, 3) := by decide +kernel
theorem dX4_slot_24 : decode cX4_slot 24 = .ok (.ifCond .eq 5, 3) := by decide +kernel
theorem dX4_slot_27 : decode cX4_slot 27 = .ok (.iconst 0, 1) := by decide +kernel
theorem dX4_slot_28 : decode cX4_slot 28 = .ok (.ireturn, 1) := by decide +kernel
theorem dX4_slot_29 : decode cX4_slot 29 = .ok (.aload_n 0, 1) := by decide +kernel
theorem dX4_slot_30 : decode cX4_slot 30 = .ok (.getfield 7, 3) := by decide +kernel
theorem dX4_slot_33 : decode cX4_slot 33 = .ok (.iload_n 1, 1) := by decide +kernel
theorem dX4_slot_34 : decode cX4_slot 34 = .ok (.iaload, 1) := by decide +kernel
theorem dX4_slot_35 : decode cX4_slot 35 = .ok (.iconst 1, 1) := by decide +kernel
theorem dX4_slot_36 : decode cX4_slot 36 = .ok (.if_icmp .ne 12, 3) := by decide +kernel
theorem dX4_slot_39 : decode cX4_slot 39 = .ok (.iload_n 2, 1) := by decide +kernel
theorem dX4_slot_40 : decode cX4_slot 40 = .ok (.aload_n 0, 1) := by decide +kernel
theorem dX4_slot_41 : decode cX4_slot 41 = .ok (.iload_n 1, 1) := by decide +kernel
theorem dX4_slot_42 : decode cX4_slot 42 = .ok (.invokevirtual 31, 3) := by decide +kernel
theorem dX4_slot_45 : decode cX4_slot 45 = .ok (.if_icmp .lt 7, 3) := by decide +kernel
theorem dX4_slot_48 : decode cX4_slot 48 = .ok (.iconst (-1), 1) := by decide +kernel
theorem dX4_slot_49 : decode cX4_slot 49 = .ok (.goto 9, 3) := by decide +kernel
theorem dX4_slot_52 : decode cX4_slot 52 = .ok (.aload_n 0, 1) := by decide +kernel
theorem dX4_slot_53 : decode cX4_slot 53 = .ok (.iload_n 1, 1) := by decide +kernel
theorem dX4_slot_54 : decode cX4_slot 54 = .ok (.iload_n 2, 1) := by decide +kernel
theorem dX4_slot_55 : decode cX4_slot 55 = .ok (.invokevirtual 122, 3) := by decide +kernel
theorem dX4_slot_58 : decode cX4_slot 58 = .ok (.ireturn, 1) := by decide +kernel
theorem dX4_sync_0 : decode cX4_sync 0 = .ok (.aload_n 0, 1) := by decide +kernel
theorem dX4_sync_1 : decode cX4_sync 1 = .ok (.iconst 0, 1) := by decide +kernel
theorem dX4_sync_2 : decode cX4_sync 2 = .ok (.putfield 23, 3) := by decide +kernel
theorem dX4_sync_5 : decode cX4_sync 5 = .ok (.aload_n 0, 1) := by decide +kernel
theorem dX4_sync_6 : decode cX4_sync 6 = .ok (.getfield 95, 3) := by decide +kernel
theorem dX4_sync_9 : decode cX4_sync 9 = .ok (.istore_n 1, 1) := by decide +kernel
theorem dX4_sync_10 : decode cX4_sync 10 = .ok (.aload_n 0, 1) := by decide +kernel
theorem dX4_sync_11 : decode cX4_sync 11 = .ok (.getfield 7, 3) := by decide +kernel
theorem dX4_sync_14 : decode cX4_sync 14 = .ok (.aload_n 0, 1) := by decide +kernel
theorem dX4_sync_15 : decode cX4_sync 15 = .ok (.getfield 13, 3) := by decide +kernel
theorem dX4_sync_18 : decode cX4_sync 18 = .ok (.invokestatic 19, 3) := by decide +kernel
theorem dX4_sync_21 : decode cX4_sync 21 = .ok (.aload_n 0, 1) := by decide +kernel
theorem dX4_sync_22 : decode cX4_sync 22 = .ok (.iconst 0, 1) := by decide +kernel
theorem dX4_sync_23 : decode cX4_sync 23 = .ok (.putfield 95, 3) := by decide +kernel
theorem dX4_sync_26 : decode cX4_sync 26 = .ok (.iload_n 1, 1) := by decide +kernel
theorem dX4_sync_27 : decode cX4_sync 27 = .ok (.ireturn, 1) := by decide +kernel
theorem dX4_crash_0 : decode cX4_crash 0 = .ok (.aload_n 0, 1) := by decide +kernel
theorem dX4_crash_1 : decode cX4_crash 1 = .ok (.iload_n 1, 1) := by decide +kernel
theorem dX4_crash_2 : decode cX4_crash 2 = .ok (.ifCond .lt 11, 3) := by decide +kernel
theorem dX4_crash_5 : decode cX4_crash 5 = .ok (.iload_n 1, 1) := by decide +kernel
theorem dX4_crash_6 : decode cX4_crash 6 = .ok (.aload_n 0, 1) := by decide +kernel
theorem dX4_crash_7 : decode cX4_crash 7 = .ok (.getfield 95, 3) := by decide +kernel
theorem dX4_crash_10 : decode cX4_crash 10 = .ok (.if_icmp .le 7, 3) := by decide +kernel
theorem dX4_crash_13 : decode cX4_crash 13 = .ok (.iconst 1, 1) := by decide +kernel
theorem dX4_crash_14 : decode cX4_crash 14 = .ok (.goto 4, 3) := by decide +kernel
theorem dX4_crash_17 : decode cX4_crash 17 = .ok (.iconst 0, 1) := by decide +kernel
theorem dX4_crash_18 : decode cX4_crash 18 = .ok (.iconst 1, 1) := by decide +kernel
theorem dX4_crash_19 : decode cX4_crash 19 = .ok (.invokevirtual 102, 3) := by decide +kernel
theorem dX4_crash_22 : decode cX4_crash 22 = .ok (.ifCond .eq 5, 3) := by decide +kernel
theorem dX4_crash_25 : decode cX4_crash 25 = .ok (.iconst 0, 1) := by decide +kernel
theorem dX4_crash_26 : decode cX4_crash 26 = .ok (.ireturn, 1) := by decide +kernel
theorem dX4_crash_27 : decode cX4_crash 27 = .ok (.aload_n 0, 1) := by decide +kernel
theorem dX4_crash_28 : decode cX4_crash 28 = .ok (.getfield 95, 3) := by decide +kernel
theorem dX4_crash_31 : decode cX4_crash 31 = .ok (.iload_n 1, 1) := by decide +kernel
theorem dX4_crash_32 : decode cX4_crash 32 = .ok (.isub, 1) := by decide +kernel
theorem dX4_crash_33 : decode cX4_crash 33 = .ok (.istore_n 2, 1) := by decide +kernel
theorem dX4_crash_34 : decode cX4_crash 34 = .ok (.aload_n 0, 1) := by decide +kernel
theorem dX4_crash_35 : decode cX4_crash 35 = .ok (.getfield 13, 3) := by decide +kernel
theorem dX4_crash_38 : decode cX4_crash 38 = .ok (.aload_n 0, 1) := by decide +kernel
theorem dX4_crash_39 : decode cX4_crash 39 = .ok (.getfield 7, 3) := by decide +kernel
theorem dX4_crash_42 : decode cX4_crash 42 = .ok (.invokestatic 19, 3) := by decide +kernel
theorem dX4_crash_45 : decode cX4_crash 45 = .ok (.aload_n 0, 1) := by decide +kernel
theorem dX4_crash_46 : decode cX4_crash 46 = .ok (.iconst 1, 1) := by decide +kernel
theorem dX4_crash_47 : decode cX4_crash 47 = .ok (.putfield 41, 3) := by decide +kernel
theorem dX4_crash_50 : decode cX4_crash 50 = .ok (.iconst 0, 1) := by decide +kernel
theorem dX4_crash_51 : decode cX4_crash 51 = .ok (.istore_n 3, 1) := by decide +kernel
theorem dX4_crash_52 : decode cX4_crash 52 = .ok (.iload_n 3, 1) := by decide +kernel
theorem dX4_crash_53 : decode cX4_crash 53 = .ok (.iload_n 1, 1) := by decide +kernel
theorem dX4_crash_54 : decode cX4_crash 54 = .ok (.if_icmp .ge 108, 3) := by decide +kernel
theorem dX4_crash_57 : decode cX4_crash 57 = .ok (.aload_n 0, 1) := by decide +kernel
theorem dX4_crash_58 : decode cX4_crash 58 = .ok (.getfield 16, 3) := by decide +kernel
theorem dX4_crash_61 : decode cX4_crash 61 = .ok (.iconst 4, 1) := by decide +kernel
theorem dX4_crash_62 : decode cX4_crash 62 = .ok (.iload_n 3, 1) := by decide +kernel
theorem dX4_crash_63 : decode cX4_crash 63 = .ok (.imul, 1) := by decide +kernel
theorem dX4_crash_64 : decode cX4_crash 64 = .ok (.iconst 1, 1) := by decide +kernel
theorem dX4_crash_65 : decode cX4_crash 65 = .ok (.iadd, 1) := by decide +kernel
theorem dX4_crash_66 : decode cX4_crash 66 = .ok (.iaload, 1) := by decide +kernel
theorem dX4_crash_67 : decode cX4_crash 67 = .ok (.istore 4, 2) := by decide +kernel
theorem dX4_crash_69 : decode cX4_crash 69 = .ok (.aload_n 0, 1) := by decide +kernel
theorem dX4_crash_70 : decode cX4_crash 70 = .ok (.getfield 16, 3) := by decide +kernel
theorem dX4_crash_73 : decode cX4_crash 73 = .ok (.iconst 4, 1) := by decide +kernel
theorem dX4_crash_74 : decode cX4_crash 74 = .ok (.iload_n 3, 1) := by decide +kernel
theorem dX4_crash_75 : decode cX4_crash 75 = .ok (.imul, 1) := by decide +kernel
theorem dX4_crash_76 : decode cX4_crash 76 = .ok (.iaload, 1) := by decide +kernel
theorem dX4_crash_77 : decode cX4_crash 77 = .ok (.ifCond .ne 31, 3) := by decide +kernel
theorem dX4_crash_80 : decode cX4_crash 80 = .ok (.aload_n 0, 1) := by decide +kernel
theorem dX4_crash_81 : decode cX4_crash 81 = .ok (.aload_n 0, 1) := by decide +kernel
theorem dX4_crash_82 : decode cX4_crash 82 = .ok (.getfield 16, 3) := by decide +kernel
theorem dX4_crash_85 : decode cX4_crash 85 = .ok (.iconst 4, 1) := by decide +kernel
theorem dX4_crash_86 : decode cX4_crash 86 = .ok (.iload_n 3, 1) := by decide +kernel
theorem dX4_crash_87 : decode cX4_crash 87 = .ok (.imul, 1) := by decide +kernel
theorem dX4_crash_88 : decode cX4_crash 88 = .ok (.iconst 2, 1) := by decide +kernel
theorem dX4_crash_89 : decode cX4_crash 89 = .ok (.iadd, 1) := by decide +kernel
theorem dX4_crash_90 : decode cX4_crash 90 = .ok (.iaload, 1) := by decide +kernel
theorem dX4_crash_91 : decode cX4_crash 91 = .ok (.aload_n 0, 1) := by decide +kernel
theorem dX4_crash_92 : decode cX4_crash 92 = .ok (.getfield 16, 3) := by decide +kernel
theorem dX4_crash_95 : decode cX4_crash 95 = .ok (.iconst 4, 1) := by decide +kernel
theorem dX4_crash_96 : decode cX4_crash 96 = .ok (.iload_n 3, 1) := by decide +kernel
theorem dX4_crash_97 : decode cX4_crash 97 = .ok (.imul, 1) := by decide +kernel
theorem dX4_crash_98 : decode cX4_crash 98 = .ok (.iconst 3, 1) := by decide +kernel
theorem dX4_crash_99 : decode cX4_crash 99 = .ok (.iadd, 1) := by decide +kernel
theorem dX4_crash_100 : decode cX4_crash 100 = .ok (.iaload, 1) := by decide +kernel
theorem dX4_crash_101 : decode cX4_crash 101 = .ok (.invokevirtual 106, 3) := by decide +kernel
theorem dX4_crash_104 : decode cX4_crash 104 = .ok (.pop, 1) := by decide +kernel
theorem dX4_crash_105 : decode cX4_crash 105 = .ok (.goto 51, 3) := by decide +kernel
theorem dX4_crash_108 : decode cX4_crash 108 = .ok (.aload_n 0, 1) := by decide +kernel
theorem dX4_crash_109 : decode cX4_crash 109 = .ok (.getfield 16, 3) := by decide +kernel
theorem dX4_crash_112 : decode cX4_crash 112 = .ok (.iconst 4, 1) := by decide +kernel
theorem dX4_crash_113 : decode cX4_crash 113 = .ok (.iload_n 3, 1) := by decide +kernel
theorem dX4_crash_114 : decode cX4_crash 114 = .ok (.imul, 1) := by decide +kernel
theorem dX4_crash_115 : decode cX4_crash 115 = .ok (.iaload, 1) := by decide +kernel
theorem dX4_crash_116 : decode cX4_crash 116 = .ok (.iconst 1, 1) := by decide +kernel
theorem dX4_crash_117 : decode cX4_crash 117 = .ok (.if_icmp .ne 33, 3) := by decide +kernel
theorem dX4_crash_120 : decode cX4_crash 120 = .ok (.aload_n 0, 1) := by decide +kernel
theorem dX4_crash_121 : decode cX4_crash 121 = .ok (.iload 4, 2) := by decide +kernel
theorem dX4_crash_123 : decode cX4_crash 123 = .ok (.aload_n 0, 1) := by decide +kernel
theorem dX4_crash_124 : decode cX4_crash 124 = .ok (.getfield 16, 3) := by decide +kernel
theorem dX4_crash_127 : decode cX4_crash 127 = .ok (.iconst 4, 1) := by decide +kernel
theorem dX4_crash_128 : decode cX4_crash 128 = .ok (.iload_n 3, 1) := by decide +kernel
theorem dX4_crash_129 : decode cX4_crash 129 = .ok (.imul, 1) := by decide +kernel
theorem dX4_crash_130 : decode cX4_crash 130 = .ok (.iconst 2, 1) := by decide +kernel
theorem dX4_crash_131 : decode cX4_crash 131 = .ok (.iadd, 1) := by decide +kernel
theorem dX4_crash_132 : decode cX4_crash 132 = .ok (.iaload, 1) := by decide +kernel
theorem dX4_crash_133 : decode cX4_crash 133 = .ok (.aload_n 0, 1) := by decide +kernel
theorem dX4_crash_134 : decode cX4_crash 134 = .ok (.getfield 16, 3) := by decide +kernel
theorem dX4_crash_137 : decode cX4_crash 137 = .ok (.iconst 4, 1) := by decide +kernel
theorem dX4_crash_138 : decode cX4_crash 138 = .ok (.iload_n 3, 1) := by decide +kernel
theorem dX4_crash_139 : decode cX4_crash 139 = .ok (.imul, 1) := by decide +kernel
theorem dX4_crash_140 : decode cX4_crash 140 = .ok (.iconst 3, 1) := by decide +kernel
theorem dX4_crash_141 : decode cX4_crash 141 = .ok (.iadd, 1) := by decide +kernel
theorem dX4_crash_142 : decode cX4_crash 142 = .ok (.iaload, 1) := by decide +kernel
theorem dX4_crash_143 : decode cX4_crash 143 = .ok (.invokevirtual 116, 3) := by decide +kernel
theorem dX4_crash_146 : decode cX4_crash 146 = .ok (.pop, 1) := by decide +kernel
theorem dX4_crash_147 : decode cX4_crash 147 = .ok (.goto 9, 3) := by decide +kernel
theorem dX4_crash_150 : decode cX4_crash 150 = .ok (.aload_n 0, 1) := by decide +kernel
theorem dX4_crash_151 : decode cX4_crash 151 = .ok (.iload 4, 2) := by decide +kernel
theorem dX4_crash_153 : decode cX4_crash 153 = .ok (.invokevirtual 119, 3) := by decide +kernel
theorem dX4_crash_156 : decode cX4_crash 156 = .ok (.iinc 3 1, 3) := by decide +kernel
theorem dX4_crash_159 : decode cX4_crash 159 = .ok (.goto (-107), 3) := by decide +kernel
theorem dX4_crash_162 : decode cX4_crash 162 = .ok (.aload_n 0, 1) := by decide +kernel
theorem dX4_crash_163 : decode cX4_crash 163 = .ok (.iconst 0, 1) := by decide +kernel
theorem dX4_crash_164 : decode cX4_crash 164 = .ok (.putfield 41, 3) := by decide +kernel
theorem dX4_crash_167 : decode cX4_crash 167 = .ok (.aload_n 0, 1) := by decide +kernel
theorem dX4_crash_168 : decode cX4_crash 168 = .ok (.dup, 1) := by decide +kernel
theorem dX4_crash_169 : decode cX4_crash 169 = .ok (.getfield 128, 3) := by decide +kernel
theorem dX4_crash_172 : decode cX4_crash 172 = .ok (.iconst 1, 1) := by decide +kernel
theorem dX4_crash_173 : decode cX4_crash 173 = .ok (.iadd, 1) := by decide +kernel
theorem dX4_crash_174 : decode cX4_crash 174 = .ok (.putfield 128, 3) := by decide +kernel
theorem dX4_crash_177 : decode cX4_crash 177 = .ok (.aload_n 0, 1) := by decide +kernel
theorem dX4_crash_178 : decode cX4_crash 178 = .ok (.invokevirtual 131, 3) := by decide +kernel
theorem dX4_crash_181 : decode cX4_crash 181 = .ok (.pop, 1) := by decide +kernel
theorem dX4_crash_182 : decode cX4_crash 182 = .ok (.iload_n 2, 1) := by decide +kernel
theorem dX4_crash_183 : decode cX4_crash 183 = .ok (.ireturn, 1) := by decide +kernel
theorem dX4_pagesOf_0 : decode cX4_pagesOf 0 = .ok (.iconst 0, 1) := by decide +kernel
theorem dX4_pagesOf_1 : decode cX4_pagesOf 1 = .ok (.istore_n 2, 1) := by decide +kernel
theorem dX4_pagesOf_2 : decode cX4_pagesOf 2 = .ok (.iconst 0, 1) := by decide +kernel
theorem dX4_pagesOf_3 : decode cX4_pagesOf 3 = .ok (.istore_n 3, 1) := by decide +kernel
theorem dX4_pagesOf_4 : decode cX4_pagesOf 4 = .ok (.iload_n 3, 1) := by decide +kernel
theorem dX4_pagesOf_5 : decode cX4_pagesOf 5 = .ok (.bipush 96, 2) := by decide +kernel
theorem dX4_pagesOf_7 : decode cX4_pagesOf 7 = .ok (.if_icmp .ge 27, 3) := by decide +kernel
theorem dX4_pagesOf_10 : decode cX4_pagesOf 10 = .ok (.iload_n 2, 1) := by decide +kernel
theorem dX4_pagesOf_11 : decode cX4_pagesOf 11 = .ok (.aload_n 0, 1) := by decide +kernel
theorem dX4_pagesOf_12 : decode cX4_pagesOf 12 = .ok (.getfield 7, 3) := by decide +kernel
theorem dX4_pagesOf_15 : decode cX4_pagesOf 15 = .ok (.iload_n 3, 1) := by decide +kernel
theorem dX4_pagesOf_16 : decode cX4_pagesOf 16 = .ok (.iaload, 1) := by decide +kernel
theorem dX4_pagesOf_17 : decode cX4_pagesOf 17 = .ok (.iload_n 1, 1) := by decide +kernel
theorem dX4_pagesOf_18 : decode cX4_pagesOf 18 = .ok (.if_icmp .ne 7, 3) := by decide +kernel
theorem dX4_pagesOf_21 : decode cX4_pagesOf 21 = .ok (.iconst 1, 1) := by decide +kernel
theorem dX4_pagesOf_22 : decode cX4_pagesOf 22 = .ok (.goto 4, 3) := by decide +kernel
theorem dX4_pagesOf_25 : decode cX4_pagesOf 25 = .ok (.iconst 0, 1) := by decide +kernel
theorem dX4_pagesOf_26 : decode cX4_pagesOf 26 = .ok (.iadd, 1) := by decide +kernel
theorem dX4_pagesOf_27 : decode cX4_pagesOf 27 = .ok (.istore_n 2, 1) := by decide +kernel
theorem dX4_pagesOf_28 : decode cX4_pagesOf 28 = .ok (.iinc 3 1, 3) := by decide +kernel
theorem dX4_pagesOf_31 : decode cX4_pagesOf 31 = .ok (.goto (-27), 3) := by decide +kernel
theorem dX4_pagesOf_34 : decode cX4_pagesOf 34 = .ok (.iload_n 2, 1) := by decide +kernel
theorem dX4_pagesOf_35 : decode cX4_pagesOf 35 = .ok (.ireturn, 1) := by decide +kernel
theorem dX4_records_0 : decode cX4_records 0 = .ok (.iconst 0, 1) := by decide +kernel
theorem dX4_records_1 : decode cX4_records 1 = .ok (.istore_n 2, 1) := by decide +kernel
theorem dX4_records_2 : decode cX4_records 2 = .ok (.iconst 0, 1) := by decide +kernel
theorem dX4_records_3 : decode cX4_records 3 = .ok (.istore_n 3, 1) := by decide +kernel
theorem dX4_records_4 : decode cX4_records 4 = .ok (.iload_n 3, 1) := by decide +kernel
theorem dX4_records_5 : decode cX4_records 5 = .ok (.sipush 3072, 3) := by decide +kernel
theorem dX4_records_8 : decode cX4_records 8 = .ok (.if_icmp .ge 43, 3) := by decide +kernel
theorem dX4_records_11 : decode cX4_records 11 = .ok (.iload_n 2, 1) := by decide +kernel
theorem dX4_records_12 : decode cX4_records 12 = .ok (.aload_n 0, 1) := by decide +kernel
theorem dX4_records_13 : decode cX4_records 13 = .ok (.iload_n 3, 1) := by decide +kernel
theorem dX4_records_14 : decode cX4_records 14 = .ok (.invokevirtual 112, 3) := by decide +kernel
theorem dX4_records_17 : decode cX4_records 17 = .ok (.ifCond .eq 25, 3) := by decide +kernel
theorem dX4_records_20 : decode cX4_records 20 = .ok (.iload_n 1, 1) := by decide +kernel
theorem dX4_records_21 : decode cX4_records 21 = .ok (.ifCond .eq 17, 3) := by decide +kernel
theorem dX4_records_24 : decode cX4_records 24 = .ok (.aload_n 0, 1) := by decide +kernel
theorem dX4_records_25 : decode cX4_records 25 = .ok (.getfield 7, 3) := by decide +kernel
theorem dX4_records_28 : decode cX4_records 28 = .ok (.sipush 6528, 3) := by decide +kernel
theorem dX4_records_31 : decode cX4_records 31 = .ok (.iload_n 3, 1) := by decide +kernel
theorem dX4_records_32 : decode cX4_records 32 = .ok (.iadd, 1) := by decide +kernel
theorem dX4_records_33 : decode cX4_records 33 = .ok (.iaload, 1) := by decide +kernel
theorem dX4_records_34 : decode cX4_records 34 = .ok (.iload_n 3, 1) := by decide +kernel
theorem dX4_records_35 : decode cX4_records 35 = .ok (.if_icmp .eq 7, 3) := by decide +kernel
theorem dX4_records_38 : decode cX4_records 38 = .ok (.iconst 1, 1) := by decide +kernel
theorem dX4_records_39 : decode cX4_records 39 = .ok (.goto 4, 3) := by decide +kernel
theorem dX4_records_42 : decode cX4_records 42 = .ok (.iconst 0, 1) := by decide +kernel
theorem dX4_records_43 : decode cX4_records 43 = .ok (.iadd, 1) := by decide +kernel
theorem dX4_records_44 : decode cX4_records 44 = .ok (.istore_n 2, 1) := by decide +kernel
theorem dX4_records_45 : decode cX4_records 45 = .ok (.iinc 3 1, 3) := by decide +kernel
theorem dX4_records_48 : decode cX4_records 48 = .ok (.goto (-44), 3) := by decide +kernel
theorem dX4_records_51 : decode cX4_records 51 = .ok (.iload_n 2, 1) := by decide +kernel
theorem dX4_records_52 : decode cX4_records 52 = .ok (.ireturn, 1) := by decide +kernel
theorem dX4_total_0 : decode cX4_total 0 = .ok (.aload_n 0, 1) := by decide +kernel
theorem dX4_total_1 : decode cX4_total 1 = .ok (.iload_n 1, 1) := by decide +kernel
theorem dX4_total_2 : decode cX4_total 2 = .ok (.ifCond .lt 9, 3) := by decide +kernel
theorem dX4_total_5 : decode cX4_total 5 = .ok (.iload_n 1, 1) := by decide +kernel
theorem dX4_total_6 : decode cX4_total 6 = .ok (.bipush 7, 2) := by decide +kernel
theorem dX4_total_8 : decode cX4_total 8 = .ok (.if_icmp .le 7, 3) := by decide +kernel
theorem dX4_total_11 : decode cX4_total 11 = .ok (.iconst 1, 1) := by decide +kernel
theorem dX4_total_12 : decode cX4_total 12 = .ok (.goto 4, 3) := by decide +kernel
theorem dX4_total_15 : decode cX4_total 15 = .ok (.iconst 0, 1) := by decide +kernel
theorem dX4_total_16 : decode cX4_total 16 = .ok (.iconst 1, 1) := by decide +kernel
theorem dX4_total_17 : decode cX4_total 17 = .ok (.invokevirtual 102, 3) := by decide +kernel
theorem dX4_total_20 : decode cX4_total 20 = .ok (.ifCond .eq 5, 3) := by decide +kernel
theorem dX4_total_23 : decode cX4_total 23 = .ok (.iconst 0, 1) := by decide +kernel
theorem dX4_total_24 : decode cX4_total 24 = .ok (.ireturn, 1) := by decide +kernel
theorem dX4_total_25 : decode cX4_total 25 = .ok (.iload_n 1, 1) := by decide +kernel
theorem dX4_total_26 : decode cX4_total 26 = .ok (.tableswitch 82 0 6 #[42, 48, 54, 60, 66, 72, 77], 42) := by decide +kernel
theorem dX4_total_68 : decode cX4_total 68 = .ok (.aload_n 0, 1) := by decide +kernel
theorem dX4_total_69 : decode cX4_total 69 = .ok (.iconst 0, 1) := by decide +kernel
theorem dX4_total_70 : decode cX4_total 70 = .ok (.invokevirtual 134, 3) := by decide +kernel
theorem dX4_total_73 : decode cX4_total 73 = .ok (.ireturn, 1) := by decide +kernel
theorem dX4_total_74 : decode cX4_total 74 = .ok (.aload_n 0, 1) := by decide +kernel
theorem dX4_total_75 : decode cX4_total 75 = .ok (.iconst 0, 1) := by decide +kernel
theorem dX4_total_76 : decode cX4_total 76 = .ok (.invokevirtual 138, 3) := by decide +kernel
theorem dX4_total_79 : decode cX4_total 79 = .ok (.ireturn, 1) := by decide +kernel
theorem dX4_total_80 : decode cX4_total 80 = .ok (.aload_n 0, 1) := by decide +kernel
theorem dX4_total_81 : decode cX4_total 81 = .ok (.iconst 1, 1) := by decide +kernel
theorem dX4_total_82 : decode cX4_total 82 = .ok (.invokevirtual 138, 3) := by decide +kernel
theorem dX4_total_85 : decode cX4_total 85 = .ok (.ireturn, 1) := by decide +kernel
theorem dX4_total_86 : decode cX4_total 86 = .ok (.aload_n 0, 1) := by decide +kernel
theorem dX4_total_87 : decode cX4_total 87 = .ok (.iconst 2, 1) := by decide +kernel
theorem dX4_total_88 : decode cX4_total 88 = .ok (.invokevirtual 138, 3) := by decide +kernel
theorem dX4_total_91 : decode cX4_total 91 = .ok (.ireturn, 1) := by decide +kernel
theorem dX4_total_92 : decode cX4_total 92 = .ok (.aload_n 0, 1) := by decide +kernel
theorem dX4_total_93 : decode cX4_total 93 = .ok (.iconst 1, 1) := by decide +kernel
theorem dX4_total_94 : decode cX4_total 94 = .ok (.invokevirtual 134, 3) := by decide +kernel
theorem dX4_total_97 : decode cX4_total 97 = .ok (.ireturn, 1) := by decide +kernel
theorem dX4_total_98 : decode cX4_total 98 = .ok (.aload_n 0, 1) := by decide +kernel
theorem dX4_total_99 : decode cX4_total 99 = .ok (.getfield 95, 3) := by decide +kernel
theorem dX4_total_102 : decode cX4_total 102 = .ok (.ireturn, 1) := by decide +kernel
theorem dX4_total_103 : decode cX4_total 103 = .ok (.aload_n 0, 1) := by decide +kernel
theorem dX4_total_104 : decode cX4_total 104 = .ok (.getfield 38, 3) := by decide +kernel
theorem dX4_total_107 : decode cX4_total 107 = .ok (.ireturn, 1) := by decide +kernel
theorem dX4_total_108 : decode cX4_total 108 = .ok (.aload_n 0, 1) := by decide +kernel
theorem dX4_total_109 : decode cX4_total 109 = .ok (.getfield 128, 3) := by decide +kernel
theorem dX4_total_112 : decode cX4_total 112 = .ok (.ireturn, 1) := by decide +kernel
theorem dJ9_max_7cf53_0 : decode cJ9_max_7cf53 0 = .ok (.iload_n 0, 1) := by decide +kernel
theorem dJ9_max_7cf53_1 : decode cJ9_max_7cf53 1 = .ok (.iload_n 1, 1) := by decide +kernel
theorem dJ9_max_7cf53_2 : decode cJ9_max_7cf53 2 = .ok (.if_icmp .lt 7, 3) := by decide +kernel
theorem dJ9_max_7cf53_5 : decode cJ9_max_7cf53 5 = .ok (.iload_n 0, 1) := by decide +kernel
theorem dJ9_max_7cf53_6 : decode cJ9_max_7cf53 6 = .ok (.goto 4, 3) := by decide +kernel
theorem dJ9_max_7cf53_9 : decode cJ9_max_7cf53 9 = .ok (.iload_n 1, 1) := by decide +kernel
theorem dJ9_max_7cf53_10 : decode cJ9_max_7cf53 10 = .ok (.ireturn, 1) := by decide +kernel
theorem dJ9_min_7cf53_0 : decode cJ9_min_7cf53 0 = .ok (.iload_n 0, 1) := by decide +kernel
theorem dJ9_min_7cf53_1 : decode cJ9_min_7cf53 1 = .ok (.iload_n 1, 1) := by decide +kernel
theorem dJ9_min_7cf53_2 : decode cJ9_min_7cf53 2 = .ok (.if_icmp .gt 7, 3) := by decide +kernel
theorem dJ9_min_7cf53_5 : decode cJ9_min_7cf53 5 = .ok (.iload_n 0, 1) := by decide +kernel
theorem dJ9_min_7cf53_6 : decode cJ9_min_7cf53 6 = .ok (.goto 4, 3) := by decide +kernel
theorem dJ9_min_7cf53_9 : decode cJ9_min_7cf53 9 = .ok (.iload_n 1, 1) := by decide +kernel
theorem dJ9_min_7cf53_10 : decode cJ9_min_7cf53 10 = .ok (.ireturn, 1) := by decide +kernel
theorem dL_insert_0 : decode cL_insert 0 = .ok (.aload_n 3, 1) := by decide +kernel
theorem dL_insert_1 : decode cL_insert 1 = .ok (.iconst 0, 1) := by decide +kernel
theorem dL_insert_2 : decode cL_insert 2 = .ok (.aload_n 0, 1) := by decide +kernel
theorem dL_insert_3 : decode cL_insert 3 = .ok (.iload_n 1, 1) := by decide +kernel
theorem dL_insert_4 : decode cL_insert 4 = .ok (.iload_n 2, 1) := by decide +kernel
theorem dL_insert_5 : decode cL_insert 5 = .ok (.invokevirtual 7, 3) := by decide +kernel
theorem dL_insert_8 : decode cL_insert 8 = .ok (.i2l, 1) := by decide +kernel
theorem dL_insert_9 : decode cL_insert 9 = .ok (.lastore, 1) := by decide +kernel
theorem dL_insert_10 : decode cL_insert 10 = .ok (.goto 7, 3) := by decide +kernel
theorem dL_insert_13 : decode cL_insert 13 = .ok (.astore 4, 2) := by decide +kernel
theorem dL_insert_15 : decode cL_insert 15 = .ok (.iconst 1, 1) := by decide +kernel
theorem dL_insert_16 : decode cL_insert 16 = .ok (.ireturn, 1) := by decide +kernel
theorem dL_insert_17 : decode cL_insert 17 = .ok (.iconst 0, 1) := by decide +kernel
theorem dL_insert_18 : decode cL_insert 18 = .ok (.ireturn, 1) := by decide +kernel
theorem dL_update_0 : decode cL_update 0 = .ok (.aload 4, 2) := by decide +kernel
theorem dL_update_2 : decode cL_update 2 = .ok (.iconst 0, 1) := by decide +kernel
theorem dL_update_3 : decode cL_update 3 = .ok (.aload_n 0, 1) := by decide +kernel
theorem dL_update_4 : decode cL_update 4 = .ok (.iload_n 1, 1) := by decide +kernel
theorem dL_update_5 : decode cL_update 5 = .ok (.iload_n 2, 1) := by decide +kernel
theorem dL_update_6 : decode cL_update 6 = .ok (.iload_n 3, 1) := by decide +kernel
theorem dL_update_7 : decode cL_update 7 = .ok (.invokevirtual 15, 3) := by decide +kernel
theorem dL_update_10 : decode cL_update 10 = .ok (.ifCond .eq 7, 3) := by decide +kernel
theorem dL_update_13 : decode cL_update 13 = .ok (.lconst 1, 1) := by decide +kernel
theorem dL_update_14 : decode cL_update 14 = .ok (.goto 4, 3) := by decide +kernel
theorem dL_update_17 : decode cL_update 17 = .ok (.lconst 0, 1) := by decide +kernel
theorem dL_update_18 : decode cL_update 18 = .ok (.lastore, 1) := by decide +kernel
theorem dL_update_19 : decode cL_update 19 = .ok (.goto 11, 3) := by decide +kernel
theorem dL_update_22 : decode cL_update 22 = .ok (.astore 5, 2) := by decide +kernel
theorem dL_update_24 : decode cL_update 24 = .ok (.iconst 1, 1) := by decide +kernel
theorem dL_update_25 : decode cL_update 25 = .ok (.ireturn, 1) := by decide +kernel
theorem dL_update_26 : decode cL_update 26 = .ok (.astore 5, 2) := by decide +kernel
theorem dL_update_28 : decode cL_update 28 = .ok (.iconst 2, 1) := by decide +kernel
theorem dL_update_29 : decode cL_update 29 = .ok (.ireturn, 1) := by decide +kernel
theorem dL_update_30 : decode cL_update 30 = .ok (.iconst 0, 1) := by decide +kernel
theorem dL_update_31 : decode cL_update 31 = .ok (.ireturn, 1) := by decide +kernel
theorem dL_delete_0 : decode cL_delete 0 = .ok (.aload_n 2, 1) := by decide +kernel
theorem dL_delete_1 : decode cL_delete 1 = .ok (.iconst 0, 1) := by decide +kernel
theorem dL_delete_2 : decode cL_delete 2 = .ok (.aload_n 0, 1) := by decide +kernel
theorem dL_delete_3 : decode cL_delete 3 = .ok (.iload_n 1, 1) := by decide +kernel
theorem dL_delete_4 : decode cL_delete 4 = .ok (.invokevirtual 21, 3) := by decide +kernel
theorem dL_delete_7 : decode cL_delete 7 = .ok (.i2l, 1) := by decide +kernel
theorem dL_delete_8 : decode cL_delete 8 = .ok (.lastore, 1) := by decide +kernel
theorem dL_delete_9 : decode cL_delete 9 = .ok (.goto 6, 3) := by decide +kernel
theorem dL_delete_12 : decode cL_delete 12 = .ok (.astore_n 3, 1) := by decide +kernel
theorem dL_delete_13 : decode cL_delete 13 = .ok (.iconst 1, 1) := by decide +kernel
theorem dL_delete_14 : decode cL_delete 14 = .ok (.ireturn, 1) := by decide +kernel
theorem dL_delete_15 : decode cL_delete 15 = .ok (.iconst 0, 1) := by decide +kernel
theorem dL_delete_16 : decode cL_delete 16 = .ok (.ireturn, 1) := by decide +kernel
theorem dL_byteAt_0 : decode cL_byteAt 0 = .ok (.aload_n 3, 1) := by decide +kernel
theorem dL_byteAt_1 : decode cL_byteAt 1 = .ok (.iconst 0, 1) := by decide +kernel
theorem dL_byteAt_2 : decode cL_byteAt 2 = .ok (.aload_n 0, 1) := by decide +kernel
theorem dL_byteAt_3 : decode cL_byteAt 3 = .ok (.iload_n 1, 1) := by decide +kernel
theorem dL_byteAt_4 : decode cL_byteAt 4 = .ok (.iload_n 2, 1) := by decide +kernel
theorem dL_byteAt_5 : decode cL_byteAt 5 = .ok (.invokevirtual 25, 3) := by decide +kernel
theorem dL_byteAt_8 : decode cL_byteAt 8 = .ok (.i2l, 1) := by decide +kernel
theorem dL_byteAt_9 : decode cL_byteAt 9 = .ok (.lastore, 1) := by decide +kernel
theorem dL_byteAt_10 : decode cL_byteAt 10 = .ok (.goto 7, 3) := by decide +kernel
theorem dL_byteAt_13 : decode cL_byteAt 13 = .ok (.astore 4, 2) := by decide +kernel
theorem dL_byteAt_15 : decode cL_byteAt 15 = .ok (.iconst 1, 1) := by decide +kernel
theorem dL_byteAt_16 : decode cL_byteAt 16 = .ok (.ireturn, 1) := by decide +kernel
theorem dL_byteAt_17 : decode cL_byteAt 17 = .ok (.iconst 0, 1) := by decide +kernel
theorem dL_byteAt_18 : decode cL_byteAt 18 = .ok (.ireturn, 1) := by decide +kernel
theorem dL_where_0 : decode cL_where 0 = .ok (.aload_n 3, 1) := by decide +kernel
theorem dL_where_1 : decode cL_where 1 = .ok (.iconst 0, 1) := by decide +kernel
theorem dL_where_2 : decode cL_where 2 = .ok (.aload_n 0, 1) := by decide +kernel
theorem dL_where_3 : decode cL_where 3 = .ok (.iload_n 1, 1) := by decide +kernel
theorem dL_where_4 : decode cL_where 4 = .ok (.iload_n 2, 1) := by decide +kernel
theorem dL_where_5 : decode cL_where 5 = .ok (.invokevirtual 28, 3) := by decide +kernel
theorem dL_where_8 : decode cL_where 8 = .ok (.i2l, 1) := by decide +kernel
theorem dL_where_9 : decode cL_where 9 = .ok (.lastore, 1) := by decide +kernel
theorem dL_where_10 : decode cL_where 10 = .ok (.goto 11, 3) := by decide +kernel
theorem dL_where_13 : decode cL_where 13 = .ok (.astore 4, 2) := by decide +kernel
theorem dL_where_15 : decode cL_where 15 = .ok (.iconst 1, 1) := by decide +kernel
theorem dL_where_16 : decode cL_where 16 = .ok (.ireturn, 1) := by decide +kernel
theorem dL_where_17 : decode cL_where 17 = .ok (.astore 4, 2) := by decide +kernel
theorem dL_where_19 : decode cL_where 19 = .ok (.iconst 2, 1) := by decide +kernel
theorem dL_where_20 : decode cL_where 20 = .ok (.ireturn, 1) := by decide +kernel
theorem dL_where_21 : decode cL_where 21 = .ok (.iconst 0, 1) := by decide +kernel
theorem dL_where_22 : decode cL_where 22 = .ok (.ireturn, 1) := by decide +kernel
theorem dL_page_0 : decode cL_page 0 = .ok (.aload_n 3, 1) := by decide +kernel
theorem dL_page_1 : decode cL_page 1 = .ok (.iconst 0, 1) := by decide +kernel
theorem dL_page_2 : decode cL_page 2 = .ok (.aload_n 0, 1) := by decide +kernel
theorem dL_page_3 : decode cL_page 3 = .ok (.iload_n 1, 1) := by decide +kernel
theorem dL_page_4 : decode cL_page 4 = .ok (.iload_n 2, 1) := by decide +kernel
theorem dL_page_5 : decode cL_page 5 = .ok (.invokevirtual 31, 3) := by decide +kernel
theorem dL_page_8 : decode cL_page 8 = .ok (.i2l, 1) := by decide +kernel
theorem dL_page_9 : decode cL_page 9 = .ok (.lastore, 1) := by decide +kernel
theorem dL_page_10 : decode cL_page 10 = .ok (.goto 7, 3) := by decide +kernel
theorem dL_page_13 : decode cL_page 13 = .ok (.astore 4, 2) := by decide +kernel
theorem dL_page_15 : decode cL_page 15 = .ok (.iconst 1, 1) := by decide +kernel
theorem dL_page_16 : decode cL_page 16 = .ok (.ireturn, 1) := by decide +kernel
theorem dL_page_17 : decode cL_page 17 = .ok (.iconst 0, 1) := by decide +kernel
theorem dL_page_18 : decode cL_page 18 = .ok (.ireturn, 1) := by decide +kernel
theorem dL_slot_0 : decode cL_slot 0 = .ok (.aload_n 3, 1) := by decide +kernel
theorem dL_slot_1 : decode cL_slot 1 = .ok (.iconst 0, 1) := by decide +kernel
theorem dL_slot_2 : decode cL_slot 2 = .ok (.aload_n 0, 1) := by decide +kernel
theorem dL_slot_3 : decode cL_slot 3 = .ok (.iload_n 1, 1) := by decide +kernel
theorem dL_slot_4 : decode cL_slot 4 = .ok (.iload_n 2, 1) := by decide +kernel
theorem dL_slot_5 : decode cL_slot 5 = .ok (.invokevirtual 34, 3) := by decide +kernel
theorem dL_slot_8 : decode cL_slot 8 = .ok (.i2l, 1) := by decide +kernel
theorem dL_slot_9 : decode cL_slot 9 = .ok (.lastore, 1) := by decide +kernel
theorem dL_slot_10 : decode cL_slot 10 = .ok (.goto 7, 3) := by decide +kernel
theorem dL_slot_13 : decode cL_slot 13 = .ok (.astore 4, 2) := by decide +kernel
theorem dL_slot_15 : decode cL_slot 15 = .ok (.iconst 1, 1) := by decide +kernel
theorem dL_slot_16 : decode cL_slot 16 = .ok (.ireturn, 1) := by decide +kernel
theorem dL_slot_17 : decode cL_slot 17 = .ok (.iconst 0, 1) := by decide +kernel
theorem dL_slot_18 : decode cL_slot 18 = .ok (.ireturn, 1) := by decide +kernel
theorem dL_crash_0 : decode cL_crash 0 = .ok (.aload_n 2, 1) := by decide +kernel
theorem dL_crash_1 : decode cL_crash 1 = .ok (.iconst 0, 1) := by decide +kernel
theorem dL_crash_2 : decode cL_crash 2 = .ok (.aload_n 0, 1) := by decide +kernel
theorem dL_crash_3 : decode cL_crash 3 = .ok (.iload_n 1, 1) := by decide +kernel
theorem dL_crash_4 : decode cL_crash 4 = .ok (.invokevirtual 37, 3) := by decide +kernel
theorem dL_crash_7 : decode cL_crash 7 = .ok (.i2l, 1) := by decide +kernel
theorem dL_crash_8 : decode cL_crash 8 = .ok (.lastore, 1) := by decide +kernel
theorem dL_crash_9 : decode cL_crash 9 = .ok (.goto 6, 3) := by decide +kernel
theorem dL_crash_12 : decode cL_crash 12 = .ok (.astore_n 3, 1) := by decide +kernel
theorem dL_crash_13 : decode cL_crash 13 = .ok (.iconst 1, 1) := by decide +kernel
theorem dL_crash_14 : decode cL_crash 14 = .ok (.ireturn, 1) := by decide +kernel
theorem dL_crash_15 : decode cL_crash 15 = .ok (.iconst 0, 1) := by decide +kernel
theorem dL_crash_16 : decode cL_crash 16 = .ok (.ireturn, 1) := by decide +kernel
theorem dL_total_0 : decode cL_total 0 = .ok (.aload_n 2, 1) := by decide +kernel
theorem dL_total_1 : decode cL_total 1 = .ok (.iconst 0, 1) := by decide +kernel
theorem dL_total_2 : decode cL_total 2 = .ok (.aload_n 0, 1) := by decide +kernel
theorem dL_total_3 : decode cL_total 3 = .ok (.iload_n 1, 1) := by decide +kernel
theorem dL_total_4 : decode cL_total 4 = .ok (.invokevirtual 40, 3) := by decide +kernel
theorem dL_total_7 : decode cL_total 7 = .ok (.i2l, 1) := by decide +kernel
theorem dL_total_8 : decode cL_total 8 = .ok (.lastore, 1) := by decide +kernel
theorem dL_total_9 : decode cL_total 9 = .ok (.goto 6, 3) := by decide +kernel
theorem dL_total_12 : decode cL_total 12 = .ok (.astore_n 3, 1) := by decide +kernel
theorem dL_total_13 : decode cL_total 13 = .ok (.iconst 1, 1) := by decide +kernel
theorem dL_total_14 : decode cL_total 14 = .ok (.ireturn, 1) := by decide +kernel
theorem dL_total_15 : decode cL_total 15 = .ok (.iconst 0, 1) := by decide +kernel
theorem dL_total_16 : decode cL_total 16 = .ok (.ireturn, 1) := by decide +kernel
theorem dL_law_0 : decode cL_law 0 = .ok (.new 8, 3) := by decide +kernel
theorem dL_law_3 : decode cL_law 3 = .ok (.dup, 1) := by decide +kernel
theorem dL_law_4 : decode cL_law 4 = .ok (.invokespecial 43, 3) := by decide +kernel
theorem dL_law_7 : decode cL_law 7 = .ok (.astore_n 1, 1) := by decide +kernel
theorem dL_law_8 : decode cL_law 8 = .ok (.new 44, 3) := by decide +kernel
theorem dL_law_11 : decode cL_law 11 = .ok (.dup, 1) := by decide +kernel
theorem dL_law_12 : decode cL_law 12 = .ok (.invokespecial 46, 3) := by decide +kernel
theorem dL_law_15 : decode cL_law 15 = .ok (.astore_n 2, 1) := by decide +kernel
theorem dL_law_16 : decode cL_law 16 = .ok (.iconst 1, 1) := by decide +kernel
theorem dL_law_17 : decode cL_law 17 = .ok (.newarray .long, 2) := by decide +kernel
theorem dL_law_19 : decode cL_law 19 = .ok (.astore_n 3, 1) := by decide +kernel
theorem dL_law_20 : decode cL_law 20 = .ok (.iconst 0, 1) := by decide +kernel
theorem dL_law_21 : decode cL_law 21 = .ok (.istore 4, 2) := by decide +kernel
theorem dL_law_23 : decode cL_law 23 = .ok (.iload 4, 2) := by decide +kernel
theorem dL_law_25 : decode cL_law 25 = .ok (.aload_n 0, 1) := by decide +kernel
theorem dL_law_26 : decode cL_law 26 = .ok (.arraylength, 1) := by decide +kernel
theorem dL_law_27 : decode cL_law 27 = .ok (.iconst 4, 1) := by decide +kernel
theorem dL_law_28 : decode cL_law 28 = .ok (.isub, 1) := by decide +kernel
theorem dL_law_29 : decode cL_law 29 = .ok (.if_icmp .gt 735, 3) := by decide +kernel
theorem dL_law_32 : decode cL_law 32 = .ok (.aload_n 0, 1) := by decide +kernel
theorem dL_law_33 : decode cL_law 33 = .ok (.iload 4, 2) := by decide +kernel
theorem dL_law_35 : decode cL_law 35 = .ok (.iaload, 1) := by decide +kernel
theorem dL_law_36 : decode cL_law 36 = .ok (.bipush 15, 2) := by decide +kernel
theorem dL_law_38 : decode cL_law 38 = .ok (.iand, 1) := by decide +kernel
theorem dL_law_39 : decode cL_law 39 = .ok (.tableswitch 719 0 11 #[61, 129, 216, 272, 297, 365, 433, 458, 526, 594, 607, 663], 61) := by decide +kernel
theorem dL_law_100 : decode cL_law 100 = .ok (.aload_n 1, 1) := by decide +kernel
theorem dL_law_101 : decode cL_law 101 = .ok (.aload_n 0, 1) := by decide +kernel
theorem dL_law_102 : decode cL_law 102 = .ok (.iload 4, 2) := by decide +kernel
theorem dL_law_104 : decode cL_law 104 = .ok (.iconst 1, 1) := by decide +kernel
theorem dL_law_105 : decode cL_law 105 = .ok (.iadd, 1) := by decide +kernel
theorem dL_law_106 : decode cL_law 106 = .ok (.iaload, 1) := by decide +kernel
theorem dL_law_107 : decode cL_law 107 = .ok (.aload_n 0, 1) := by decide +kernel
theorem dL_law_108 : decode cL_law 108 = .ok (.iload 4, 2) := by decide +kernel
theorem dL_law_110 : decode cL_law 110 = .ok (.iconst 2, 1) := by decide +kernel
theorem dL_law_111 : decode cL_law 111 = .ok (.iadd, 1) := by decide +kernel
theorem dL_law_112 : decode cL_law 112 = .ok (.iaload, 1) := by decide +kernel
theorem dL_law_113 : decode cL_law 113 = .ok (.aload_n 3, 1) := by decide +kernel
theorem dL_law_114 : decode cL_law 114 = .ok (.invokestatic 47, 3) := by decide +kernel
theorem dL_law_117 : decode cL_law 117 = .ok (.istore 5, 2) := by decide +kernel
theorem dL_law_119 : decode cL_law 119 = .ok (.aload_n 2, 1) := by decide +kernel
theorem dL_law_120 : decode cL_law 120 = .ok (.aload_n 0, 1) := by decide +kernel
theorem dL_law_121 : decode cL_law 121 = .ok (.iload 4, 2) := by decide +kernel
theorem dL_law_123 : decode cL_law 123 = .ok (.iconst 1, 1) := by decide +kernel
theorem dL_law_124 : decode cL_law 124 = .ok (.iadd, 1) := by decide +kernel
theorem dL_law_125 : decode cL_law 125 = .ok (.iaload, 1) := by decide +kernel
theorem dL_law_126 : decode cL_law 126 = .ok (.aload_n 0, 1) := by decide +kernel
theorem dL_law_127 : decode cL_law 127 = .ok (.iload 4, 2) := by decide +kernel
theorem dL_law_129 : decode cL_law 129 = .ok (.iconst 2, 1) := by decide +kernel
theorem dL_law_130 : decode cL_law 130 = .ok (.iadd, 1) := by decide +kernel
theorem dL_law_131 : decode cL_law 131 = .ok (.iaload, 1) := by decide +kernel
theorem dL_law_132 : decode cL_law 132 = .ok (.invokevirtual 52, 3) := by decide +kernel
theorem dL_law_135 : decode cL_law 135 = .ok (.istore 6, 2) := by decide +kernel
theorem dL_law_137 : decode cL_law 137 = .ok (.aload_n 2, 1) := by decide +kernel
theorem dL_law_138 : decode cL_law 138 = .ok (.invokevirtual 53, 3) := by decide +kernel
theorem dL_law_141 : decode cL_law 141 = .ok (.iload 5, 2) := by decide +kernel
theorem dL_law_143 : decode cL_law 143 = .ok (.if_icmp .eq 5, 3) := by decide +kernel
theorem dL_law_146 : decode cL_law 146 = .ok (.iconst 0, 1) := by decide +kernel
theorem dL_law_147 : decode cL_law 147 = .ok (.ireturn, 1) := by decide +kernel
theorem dL_law_148 : decode cL_law 148 = .ok (.iload 5, 2) := by decide +kernel
theorem dL_law_150 : decode cL_law 150 = .ok (.ifCond .ne 15, 3) := by decide +kernel
theorem dL_law_153 : decode cL_law 153 = .ok (.aload_n 3, 1) := by decide +kernel
theorem dL_law_154 : decode cL_law 154 = .ok (.iconst 0, 1) := by decide +kernel
theorem dL_law_155 : decode cL_law 155 = .ok (.laload, 1) := by decide +kernel
theorem dL_law_156 : decode cL_law 156 = .ok (.iload 6, 2) := by decide +kernel
theorem dL_law_158 : decode cL_law 158 = .ok (.i2l, 1) := by decide +kernel
theorem dL_law_159 : decode cL_law 159 = .ok (.lcmp, 1) := by decide +kernel
theorem dL_law_160 : decode cL_law 160 = .ok (.ifCond .eq 5, 3) := by decide +kernel
theorem dL_law_163 : decode cL_law 163 = .ok (.iconst 0, 1) := by decide +kernel
theorem dL_law_164 : decode cL_law 164 = .ok (.ireturn, 1) := by decide +kernel
theorem dL_law_165 : decode cL_law 165 = .ok (.goto 593, 3) := by decide +kernel
theorem dL_law_168 : decode cL_law 168 = .ok (.aload_n 1, 1) := by decide +kernel
theorem dL_law_169 : decode cL_law 169 = .ok (.aload_n 0, 1) := by decide +kernel
theorem dL_law_170 : decode cL_law 170 = .ok (.iload 4, 2) := by decide +kernel
theorem dL_law_172 : decode cL_law 172 = .ok (.iconst 1, 1) := by decide +kernel
theorem dL_law_173 : decode cL_law 173 = .ok (.iadd, 1) := by decide +kernel
theorem dL_law_174 : decode cL_law 174 = .ok (.iaload, 1) := by decide +kernel
theorem dL_law_175 : decode cL_law 175 = .ok (.aload_n 0, 1) := by decide +kernel
theorem dL_law_176 : decode cL_law 176 = .ok (.iload 4, 2) := by decide +kernel
theorem dL_law_178 : decode cL_law 178 = .ok (.iconst 2, 1) := by decide +kernel
theorem dL_law_179 : decode cL_law 179 = .ok (.iadd, 1) := by decide +kernel
theorem dL_law_180 : decode cL_law 180 = .ok (.iaload, 1) := by decide +kernel
theorem dL_law_181 : decode cL_law 181 = .ok (.aload_n 0, 1) := by decide +kernel
theorem dL_law_182 : decode cL_law 182 = .ok (.iload 4, 2) := by decide +kernel
theorem dL_law_184 : decode cL_law 184 = .ok (.iconst 3, 1) := by decide +kernel
theorem dL_law_185 : decode cL_law 185 = .ok (.iadd, 1) := by decide +kernel
theorem dL_law_186 : decode cL_law 186 = .ok (.iaload, 1) := by decide +kernel
theorem dL_law_187 : decode cL_law 187 = .ok (.aload_n 3, 1) := by decide +kernel
theorem dL_law_188 : decode cL_law 188 = .ok (.invokestatic 57, 3) := by decide +kernel
theorem dL_law_191 : decode cL_law 191 = .ok (.istore 5, 2) := by decide +kernel
theorem dL_law_193 : decode cL_law 193 = .ok (.aload_n 2, 1) := by decide +kernel
theorem dL_law_194 : decode cL_law 194 = .ok (.aload_n 0, 1) := by decide +kernel
theorem dL_law_195 : decode cL_law 195 = .ok (.iload 4, 2) := by decide +kernel
theorem dL_law_197 : decode cL_law 197 = .ok (.iconst 1, 1) := by decide +kernel
theorem dL_law_198 : decode cL_law 198 = .ok (.iadd, 1) := by decide +kernel
theorem dL_law_199 : decode cL_law 199 = .ok (.iaload, 1) := by decide +kernel
theorem dL_law_200 : decode cL_law 200 = .ok (.aload_n 0, 1) := by decide +kernel
theorem dL_law_201 : decode cL_law 201 = .ok (.iload 4, 2) := by decide +kernel
theorem dL_law_203 : decode cL_law 203 = .ok (.iconst 2, 1) := by decide +kernel
theorem dL_law_204 : decode cL_law 204 = .ok (.iadd, 1) := by decide +kernel
theorem dL_law_205 : decode cL_law 205 = .ok (.iaload, 1) := by decide +kernel
theorem dL_law_206 : decode cL_law 206 = .ok (.aload_n 0, 1) := by decide +kernel
theorem dL_law_207 : decode cL_law 207 = .ok (.iload 4, 2) := by decide +kernel
theorem dL_law_209 : decode cL_law 209 = .ok (.iconst 3, 1) := by decide +kernel
theorem dL_law_210 : decode cL_law 210 = .ok (.iadd, 1) := by decide +kernel
theorem dL_law_211 : decode cL_law 211 = .ok (.iaload, 1) := by decide +kernel
theorem dL_law_212 : decode cL_law 212 = .ok (.invokevirtual 60, 3) := by decide +kernel
theorem dL_law_215 : decode cL_law 215 = .ok (.istore 6, 2) := by decide +kernel
theorem dL_law_217 : decode cL_law 217 = .ok (.aload_n 2, 1) := by decide +kernel
theorem dL_law_218 : decode cL_law 218 = .ok (.invokevirtual 53, 3) := by decide +kernel
theorem dL_law_221 : decode cL_law 221 = .ok (.iload 5, 2) := by decide +kernel
theorem dL_law_223 : decode cL_law 223 = .ok (.if_icmp .eq 5, 3) := by decide +kernel
theorem dL_law_226 : decode cL_law 226 = .ok (.iconst 0, 1) := by decide +kernel
theorem dL_law_227 : decode cL_law 227 = .ok (.ireturn, 1) := by decide +kernel
theorem dL_law_228 : decode cL_law 228 = .ok (.iload 5, 2) := by decide +kernel
theorem dL_law_230 : decode cL_law 230 = .ok (.ifCond .ne 22, 3) := by decide +kernel
theorem dL_law_233 : decode cL_law 233 = .ok (.aload_n 3, 1) := by decide +kernel
theorem dL_law_234 : decode cL_law 234 = .ok (.iconst 0, 1) := by decide +kernel
theorem dL_law_235 : decode cL_law 235 = .ok (.laload, 1) := by decide +kernel
theorem dL_law_236 : decode cL_law 236 = .ok (.iload 6, 2) := by decide +kernel
theorem dL_law_238 : decode cL_law 238 = .ok (.ifCond .eq 7, 3) := by decide +kernel
theorem dL_law_241 : decode cL_law 241 = .ok (.lconst 1, 1) := by decide +kernel
theorem dL_law_242 : decode cL_law 242 = .ok (.goto 4, 3) := by decide +kernel
theorem dL_law_245 : decode cL_law 245 = .ok (.lconst 0, 1) := by decide +kernel
theorem dL_law_246 : decode cL_law 246 = .ok (.lcmp, 1) := by decide +kernel
theorem dL_law_247 : decode cL_law 247 = .ok (.ifCond .eq 5, 3) := by decide +kernel
theorem dL_law_250 : decode cL_law 250 = .ok (.iconst 0, 1) := by decide +kernel
theorem dL_law_251 : decode cL_law 251 = .ok (.ireturn, 1) := by decide +kernel
theorem dL_law_252 : decode cL_law 252 = .ok (.goto 506, 3) := by decide +kernel
theorem dL_law_255 : decode cL_law 255 = .ok (.aload_n 1, 1) := by decide +kernel
theorem dL_law_256 : decode cL_law 256 = .ok (.aload_n 0, 1) := by decide +kernel
theorem dL_law_257 : decode cL_law 257 = .ok (.iload 4, 2) := by decide +kernel
theorem dL_law_259 : decode cL_law 259 = .ok (.iconst 1, 1) := by decide +kernel
theorem dL_law_260 : decode cL_law 260 = .ok (.iadd, 1) := by decide +kernel
theorem dL_law_261 : decode cL_law 261 = .ok (.iaload, 1) := by decide +kernel
theorem dL_law_262 : decode cL_law 262 = .ok (.aload_n 3, 1) := by decide +kernel
theorem dL_law_263 : decode cL_law 263 = .ok (.invokestatic 61, 3) := by decide +kernel
theorem dL_law_266 : decode cL_law 266 = .ok (.istore 5, 2) := by decide +kernel
theorem dL_law_268 : decode cL_law 268 = .ok (.aload_n 2, 1) := by decide +kernel
theorem dL_law_269 : decode cL_law 269 = .ok (.aload_n 0, 1) := by decide +kernel
theorem dL_law_270 : decode cL_law 270 = .ok (.iload 4, 2) := by decide +kernel
theorem dL_law_272 : decode cL_law 272 = .ok (.iconst 1, 1) := by decide +kernel
theorem dL_law_273 : decode cL_law 273 = .ok (.iadd, 1) := by decide +kernel
theorem dL_law_274 : decode cL_law 274 = .ok (.iaload, 1) := by decide +kernel
theorem dL_law_275 : decode cL_law 275 = .ok (.invokevirtual 64, 3) := by decide +kernel
theorem dL_law_278 : decode cL_law 278 = .ok (.istore 6, 2) := by decide +kernel
theorem dL_law_280 : decode cL_law 280 = .ok (.aload_n 2, 1) := by decide +kernel
theorem dL_law_281 : decode cL_law 281 = .ok (.invokevirtual 53, 3) := by decide +kernel
theorem dL_law_284 : decode cL_law 284 = .ok (.iload 5, 2) := by decide +kernel
theorem dL_law_286 : decode cL_law 286 = .ok (.if_icmp .eq 5, 3) := by decide +kernel
theorem dL_law_289 : decode cL_law 289 = .ok (.iconst 0, 1) := by decide +kernel
theorem dL_law_290 : decode cL_law 290 = .ok (.ireturn, 1) := by decide +kernel
theorem dL_law_291 : decode cL_law 291 = .ok (.iload 5, 2) := by decide +kernel
theorem dL_law_293 : decode cL_law 293 = .ok (.ifCond .ne 15, 3) := by decide +kernel
theorem dL_law_296 : decode cL_law 296 = .ok (.aload_n 3, 1) := by decide +kernel
theorem dL_law_297 : decode cL_law 297 = .ok (.iconst 0, 1) := by decide +kernel
theorem dL_law_298 : decode cL_law 298 = .ok (.laload, 1) := by decide +kernel
theorem dL_law_299 : decode cL_law 299 = .ok (.iload 6, 2) := by decide +kernel
theorem dL_law_301 : decode cL_law 301 = .ok (.i2l, 1) := by decide +kernel
theorem dL_law_302 : decode cL_law 302 = .ok (.lcmp, 1) := by decide +kernel
theorem dL_law_303 : decode cL_law 303 = .ok (.ifCond .eq 5, 3) := by decide +kernel
theorem dL_law_306 : decode cL_law 306 = .ok (.iconst 0, 1) := by decide +kernel
theorem dL_law_307 : decode cL_law 307 = .ok (.ireturn, 1) := by decide +kernel
theorem dL_law_308 : decode cL_law 308 = .ok (.goto 450, 3) := by decide +kernel
theorem dL_law_311 : decode cL_law 311 = .ok (.aload_n 1, 1) := by decide +kernel
theorem dL_law_312 : decode cL_law 312 = .ok (.aload_n 0, 1) := by decide +kernel
theorem dL_law_313 : decode cL_law 313 = .ok (.iload 4, 2) := by decide +kernel
theorem dL_law_315 : decode cL_law 315 = .ok (.iconst 1, 1) := by decide +kernel
theorem dL_law_316 : decode cL_law 316 = .ok (.iadd, 1) := by decide +kernel
theorem dL_law_317 : decode cL_law 317 = .ok (.iaload, 1) := by decide +kernel
theorem dL_law_318 : decode cL_law 318 = .ok (.invokevirtual 65, 3) := by decide +kernel
theorem dL_law_321 : decode cL_law 321 = .ok (.aload_n 2, 1) := by decide +kernel
theorem dL_law_322 : decode cL_law 322 = .ok (.aload_n 0, 1) := by decide +kernel
theorem dL_law_323 : decode cL_law 323 = .ok (.iload 4, 2) := by decide +kernel
theorem dL_law_325 : decode cL_law 325 = .ok (.iconst 1, 1) := by decide +kernel
theorem dL_law_326 : decode cL_law 326 = .ok (.iadd, 1) := by decide +kernel
theorem dL_law_327 : decode cL_law 327 = .ok (.iaload, 1) := by decide +kernel
theorem dL_law_328 : decode cL_law 328 = .ok (.invokevirtual 68, 3) := by decide +kernel
theorem dL_law_331 : decode cL_law 331 = .ok (.if_icmp .eq 427, 3) := by decide +kernel
theorem dL_law_334 : decode cL_law 334 = .ok (.iconst 0, 1) := by decide +kernel
theorem dL_law_335 : decode cL_law 335 = .ok (.ireturn, 1) := by decide +kernel
theorem dL_law_336 : decode cL_law 336 = .ok (.aload_n 1, 1) := by decide +kernel
theorem dL_law_337 : decode cL_law 337 = .ok (.aload_n 0, 1) := by decide +kernel
theorem dL_law_338 : decode cL_law 338 = .ok (.iload 4, 2) := by decide +kernel
theorem dL_law_340 : decode cL_law 340 = .ok (.iconst 1, 1) := by decide +kernel
theorem dL_law_341 : decode cL_law 341 = .ok (.iadd, 1) := by decide +kernel
theorem dL_law_342 : decode cL_law 342 = .ok (.iaload, 1) := by decide +kernel
theorem dL_law_343 : decode cL_law 343 = .ok (.aload_n 0, 1) := by decide +kernel
theorem dL_law_344 : decode cL_law 344 = .ok (.iload 4, 2) := by decide +kernel
theorem dL_law_346 : decode cL_law 346 = .ok (.iconst 2, 1) := by decide +kernel
theorem dL_law_347 : decode cL_law 347 = .ok (.iadd, 1) := by decide +kernel
theorem dL_law_348 : decode cL_law 348 = .ok (.iaload, 1) := by decide +kernel
theorem dL_law_349 : decode cL_law 349 = .ok (.aload_n 3, 1) := by decide +kernel
theorem dL_law_350 : decode cL_law 350 = .ok (.invokestatic 69, 3) := by decide +kernel
theorem dL_law_353 : decode cL_law 353 = .ok (.istore 5, 2) := by decide +kernel
theorem dL_law_355 : decode cL_law 355 = .ok (.aload_n 2, 1) := by decide +kernel
theorem dL_law_356 : decode cL_law 356 = .ok (.aload_n 0, 1) := by decide +kernel
theorem dL_law_357 : decode cL_law 357 = .ok (.iload 4, 2) := by decide +kernel
theorem dL_law_359 : decode cL_law 359 = .ok (.iconst 1, 1) := by decide +kernel
theorem dL_law_360 : decode cL_law 360 = .ok (.iadd, 1) := by decide +kernel
theorem dL_law_361 : decode cL_law 361 = .ok (.iaload, 1) := by decide +kernel
theorem dL_law_362 : decode cL_law 362 = .ok (.aload_n 0, 1) := by decide +kernel
theorem dL_law_363 : decode cL_law 363 = .ok (.iload 4, 2) := by decide +kernel
theorem dL_law_365 : decode cL_law 365 = .ok (.iconst 2, 1) := by decide +kernel
theorem dL_law_366 : decode cL_law 366 = .ok (.iadd, 1) := by decide +kernel
theorem dL_law_367 : decode cL_law 367 = .ok (.iaload, 1) := by decide +kernel
theorem dL_law_368 : decode cL_law 368 = .ok (.invokevirtual 71, 3) := by decide +kernel
theorem dL_law_371 : decode cL_law 371 = .ok (.istore 6, 2) := by decide +kernel
theorem dL_law_373 : decode cL_law 373 = .ok (.aload_n 2, 1) := by decide +kernel
theorem dL_law_374 : decode cL_law 374 = .ok (.invokevirtual 53, 3) := by decide +kernel
theorem dL_law_377 : decode cL_law 377 = .ok (.iload 5, 2) := by decide +kernel
theorem dL_law_379 : decode cL_law 379 = .ok (.if_icmp .eq 5, 3) := by decide +kernel
theorem dL_law_382 : decode cL_law 382 = .ok (.iconst 0, 1) := by decide +kernel
theorem dL_law_383 : decode cL_law 383 = .ok (.ireturn, 1) := by decide +kernel
theorem dL_law_384 : decode cL_law 384 = .ok (.iload 5, 2) := by decide +kernel
theorem dL_law_386 : decode cL_law 386 = .ok (.ifCond .ne 15, 3) := by decide +kernel
theorem dL_law_389 : decode cL_law 389 = .ok (.aload_n 3, 1) := by decide +kernel
theorem dL_law_390 : decode cL_law 390 = .ok (.iconst 0, 1) := by decide +kernel
theorem dL_law_391 : decode cL_law 391 = .ok (.laload, 1) := by decide +kernel
theorem dL_law_392 : decode cL_law 392 = .ok (.iload 6, 2) := by decide +kernel
theorem dL_law_394 : decode cL_law 394 = .ok (.i2l, 1) := by decide +kernel
theorem dL_law_395 : decode cL_law 395 = .ok (.lcmp, 1) := by decide +kernel
theorem dL_law_396 : decode cL_law 396 = .ok (.ifCond .eq 5, 3) := by decide +kernel
theorem dL_law_399 : decode cL_law 399 = .ok (.iconst 0, 1) := by decide +kernel
theorem dL_law_400 : decode cL_law 400 = .ok (.ireturn, 1) := by decide +kernel
theorem dL_law_401 : decode cL_law 401 = .ok (.goto 357, 3) := by decide +kernel
theorem dL_law_404 : decode cL_law 404 = .ok (.aload_n 1, 1) := by decide +kernel
theorem dL_law_405 : decode cL_law 405 = .ok (.aload_n 0, 1) := by decide +kernel
theorem dL_law_406 : decode cL_law 406 = .ok (.iload 4, 2) := by decide +kernel
theorem dL_law_408 : decode cL_law 408 = .ok (.iconst 1, 1) := by decide +kernel
theorem dL_law_409 : decode cL_law 409 = .ok (.iadd, 1) := by decide +kernel
theorem dL_law_410 : decode cL_law 410 = .ok (.iaload, 1) := by decide +kernel
theorem dL_law_411 : decode cL_law 411 = .ok (.aload_n 0, 1) := by decide +kernel
theorem dL_law_412 : decode cL_law 412 = .ok (.iload 4, 2) := by decide +kernel
theorem dL_law_414 : decode cL_law 414 = .ok (.iconst 2, 1) := by decide +kernel
theorem dL_law_415 : decode cL_law 415 = .ok (.iadd, 1) := by decide +kernel
theorem dL_law_416 : decode cL_law 416 = .ok (.iaload, 1) := by decide +kernel
theorem dL_law_417 : decode cL_law 417 = .ok (.aload_n 3, 1) := by decide +kernel
theorem dL_law_418 : decode cL_law 418 = .ok (.invokestatic 72, 3) := by decide +kernel
theorem dL_law_421 : decode cL_law 421 = .ok (.istore 5, 2) := by decide +kernel
theorem dL_law_423 : decode cL_law 423 = .ok (.aload_n 2, 1) := by decide +kernel
theorem dL_law_424 : decode cL_law 424 = .ok (.aload_n 0, 1) := by decide +kernel
theorem dL_law_425 : decode cL_law 425 = .ok (.iload 4, 2) := by decide +kernel
theorem dL_law_427 : decode cL_law 427 = .ok (.iconst 1, 1) := by decide +kernel
theorem dL_law_428 : decode cL_law 428 = .ok (.iadd, 1) := by decide +kernel
theorem dL_law_429 : decode cL_law 429 = .ok (.iaload, 1) := by decide +kernel
theorem dL_law_430 : decode cL_law 430 = .ok (.aload_n 0, 1) := by decide +kernel
theorem dL_law_431 : decode cL_law 431 = .ok (.iload 4, 2) := by decide +kernel
theorem dL_law_433 : decode cL_law 433 = .ok (.iconst 2, 1) := by decide +kernel
theorem dL_law_434 : decode cL_law 434 = .ok (.iadd, 1) := by decide +kernel
theorem dL_law_435 : decode cL_law 435 = .ok (.iaload, 1) := by decide +kernel
theorem dL_law_436 : decode cL_law 436 = .ok (.invokevirtual 74, 3) := by decide +kernel
theorem dL_law_439 : decode cL_law 439 = .ok (.istore 6, 2) := by decide +kernel
theorem dL_law_441 : decode cL_law 441 = .ok (.aload_n 2, 1) := by decide +kernel
theorem dL_law_442 : decode cL_law 442 = .ok (.invokevirtual 53, 3) := by decide +kernel
theorem dL_law_445 : decode cL_law 445 = .ok (.iload 5, 2) := by decide +kernel
theorem dL_law_447 : decode cL_law 447 = .ok (.if_icmp .eq 5, 3) := by decide +kernel
theorem dL_law_450 : decode cL_law 450 = .ok (.iconst 0, 1) := by decide +kernel
theorem dL_law_451 : decode cL_law 451 = .ok (.ireturn, 1) := by decide +kernel
theorem dL_law_452 : decode cL_law 452 = .ok (.iload 5, 2) := by decide +kernel
theorem dL_law_454 : decode cL_law 454 = .ok (.ifCond .ne 15, 3) := by decide +kernel
theorem dL_law_457 : decode cL_law 457 = .ok (.aload_n 3, 1) := by decide +kernel
theorem dL_law_458 : decode cL_law 458 = .ok (.iconst 0, 1) := by decide +kernel
theorem dL_law_459 : decode cL_law 459 = .ok (.laload, 1) := by decide +kernel
theorem dL_law_460 : decode cL_law 460 = .ok (.iload 6, 2) := by decide +kernel
theorem dL_law_462 : decode cL_law 462 = .ok (.i2l, 1) := by decide +kernel
theorem dL_law_463 : decode cL_law 463 = .ok (.lcmp, 1) := by decide +kernel
theorem dL_law_464 : decode cL_law 464 = .ok (.ifCond .eq 5, 3) := by decide +kernel
theorem dL_law_467 : decode cL_law 467 = .ok (.iconst 0, 1) := by decide +kernel
theorem dL_law_468 : decode cL_law 468 = .ok (.ireturn, 1) := by decide +kernel
theorem dL_law_469 : decode cL_law 469 = .ok (.goto 289, 3) := by decide +kernel
theorem dL_law_472 : decode cL_law 472 = .ok (.aload_n 1, 1) := by decide +kernel
theorem dL_law_473 : decode cL_law 473 = .ok (.aload_n 0, 1) := by decide +kernel
theorem dL_law_474 : decode cL_law 474 = .ok (.iload 4, 2) := by decide +kernel
theorem dL_law_476 : decode cL_law 476 = .ok (.iconst 1, 1) := by decide +kernel
theorem dL_law_477 : decode cL_law 477 = .ok (.iadd, 1) := by decide +kernel
theorem dL_law_478 : decode cL_law 478 = .ok (.iaload, 1) := by decide +kernel
theorem dL_law_479 : decode cL_law 479 = .ok (.invokevirtual 75, 3) := by decide +kernel
theorem dL_law_482 : decode cL_law 482 = .ok (.aload_n 2, 1) := by decide +kernel
theorem dL_law_483 : decode cL_law 483 = .ok (.aload_n 0, 1) := by decide +kernel
theorem dL_law_484 : decode cL_law 484 = .ok (.iload 4, 2) := by decide +kernel
theorem dL_law_486 : decode cL_law 486 = .ok (.iconst 1, 1) := by decide +kernel
theorem dL_law_487 : decode cL_law 487 = .ok (.iadd, 1) := by decide +kernel
theorem dL_law_488 : decode cL_law 488 = .ok (.iaload, 1) := by decide +kernel
theorem dL_law_489 : decode cL_law 489 = .ok (.invokevirtual 78, 3) := by decide +kernel
theorem dL_law_492 : decode cL_law 492 = .ok (.if_icmp .eq 266, 3) := by decide +kernel
theorem dL_law_495 : decode cL_law 495 = .ok (.iconst 0, 1) := by decide +kernel
theorem dL_law_496 : decode cL_law 496 = .ok (.ireturn, 1) := by decide +kernel
theorem dL_law_497 : decode cL_law 497 = .ok (.aload_n 1, 1) := by decide +kernel
theorem dL_law_498 : decode cL_law 498 = .ok (.aload_n 0, 1) := by decide +kernel
theorem dL_law_499 : decode cL_law 499 = .ok (.iload 4, 2) := by decide +kernel
theorem dL_law_501 : decode cL_law 501 = .ok (.iconst 1, 1) := by decide +kernel
theorem dL_law_502 : decode cL_law 502 = .ok (.iadd, 1) := by decide +kernel
theorem dL_law_503 : decode cL_law 503 = .ok (.iaload, 1) := by decide +kernel
theorem dL_law_504 : decode cL_law 504 = .ok (.aload_n 0, 1) := by decide +kernel
theorem dL_law_505 : decode cL_law 505 = .ok (.iload 4, 2) := by decide +kernel
theorem dL_law_507 : decode cL_law 507 = .ok (.iconst 2, 1) := by decide +kernel
theorem dL_law_508 : decode cL_law 508 = .ok (.iadd, 1) := by decide +kernel
theorem dL_law_509 : decode cL_law 509 = .ok (.iaload, 1) := by decide +kernel
theorem dL_law_510 : decode cL_law 510 = .ok (.aload_n 3, 1) := by decide +kernel
theorem dL_law_511 : decode cL_law 511 = .ok (.invokestatic 79, 3) := by decide +kernel
theorem dL_law_514 : decode cL_law 514 = .ok (.istore 5, 2) := by decide +kernel
theorem dL_law_516 : decode cL_law 516 = .ok (.aload_n 2, 1) := by decide +kernel
theorem dL_law_517 : decode cL_law 517 = .ok (.aload_n 0, 1) := by decide +kernel
theorem dL_law_518 : decode cL_law 518 = .ok (.iload 4, 2) := by decide +kernel
theorem dL_law_520 : decode cL_law 520 = .ok (.iconst 1, 1) := by decide +kernel
theorem dL_law_521 : decode cL_law 521 = .ok (.iadd, 1) := by decide +kernel
theorem dL_law_522 : decode cL_law 522 = .ok (.iaload, 1) := by decide +kernel
theorem dL_law_523 : decode cL_law 523 = .ok (.aload_n 0, 1) := by decide +kernel
theorem dL_law_524 : decode cL_law 524 = .ok (.iload 4, 2) := by decide +kernel
theorem dL_law_526 : decode cL_law 526 = .ok (.iconst 2, 1) := by decide +kernel
theorem dL_law_527 : decode cL_law 527 = .ok (.iadd, 1) := by decide +kernel
theorem dL_law_528 : decode cL_law 528 = .ok (.iaload, 1) := by decide +kernel
theorem dL_law_529 : decode cL_law 529 = .ok (.invokevirtual 81, 3) := by decide +kernel
theorem dL_law_532 : decode cL_law 532 = .ok (.istore 6, 2) := by decide +kernel
theorem dL_law_534 : decode cL_law 534 = .ok (.aload_n 2, 1) := by decide +kernel
theorem dL_law_535 : decode cL_law 535 = .ok (.invokevirtual 53, 3) := by decide +kernel
theorem dL_law_538 : decode cL_law 538 = .ok (.iload 5, 2) := by decide +kernel
theorem dL_law_540 : decode cL_law 540 = .ok (.if_icmp .eq 5, 3) := by decide +kernel
theorem dL_law_543 : decode cL_law 543 = .ok (.iconst 0, 1) := by decide +kernel
theorem dL_law_544 : decode cL_law 544 = .ok (.ireturn, 1) := by decide +kernel
theorem dL_law_545 : decode cL_law 545 = .ok (.iload 5, 2) := by decide +kernel
theorem dL_law_547 : decode cL_law 547 = .ok (.ifCond .ne 15, 3) := by decide +kernel
theorem dL_law_550 : decode cL_law 550 = .ok (.aload_n 3, 1) := by decide +kernel
theorem dL_law_551 : decode cL_law 551 = .ok (.iconst 0, 1) := by decide +kernel
theorem dL_law_552 : decode cL_law 552 = .ok (.laload, 1) := by decide +kernel
theorem dL_law_553 : decode cL_law 553 = .ok (.iload 6, 2) := by decide +kernel
theorem dL_law_555 : decode cL_law 555 = .ok (.i2l, 1) := by decide +kernel
theorem dL_law_556 : decode cL_law 556 = .ok (.lcmp, 1) := by decide +kernel
theorem dL_law_557 : decode cL_law 557 = .ok (.ifCond .eq 5, 3) := by decide +kernel
theorem dL_law_560 : decode cL_law 560 = .ok (.iconst 0, 1) := by decide +kernel
theorem dL_law_561 : decode cL_law 561 = .ok (.ireturn, 1) := by decide +kernel
theorem dL_law_562 : decode cL_law 562 = .ok (.goto 196, 3) := by decide +kernel
theorem dL_law_565 : decode cL_law 565 = .ok (.aload_n 1, 1) := by decide +kernel
theorem dL_law_566 : decode cL_law 566 = .ok (.aload_n 0, 1) := by decide +kernel
theorem dL_law_567 : decode cL_law 567 = .ok (.iload 4, 2) := by decide +kernel
theorem dL_law_569 : decode cL_law 569 = .ok (.iconst 1, 1) := by decide +kernel
theorem dL_law_570 : decode cL_law 570 = .ok (.iadd, 1) := by decide +kernel
theorem dL_law_571 : decode cL_law 571 = .ok (.iaload, 1) := by decide +kernel
theorem dL_law_572 : decode cL_law 572 = .ok (.aload_n 0, 1) := by decide +kernel
theorem dL_law_573 : decode cL_law 573 = .ok (.iload 4, 2) := by decide +kernel
theorem dL_law_575 : decode cL_law 575 = .ok (.iconst 2, 1) := by decide +kernel
theorem dL_law_576 : decode cL_law 576 = .ok (.iadd, 1) := by decide +kernel
theorem dL_law_577 : decode cL_law 577 = .ok (.iaload, 1) := by decide +kernel
theorem dL_law_578 : decode cL_law 578 = .ok (.aload_n 3, 1) := by decide +kernel
theorem dL_law_579 : decode cL_law 579 = .ok (.invokestatic 82, 3) := by decide +kernel
theorem dL_law_582 : decode cL_law 582 = .ok (.istore 5, 2) := by decide +kernel
theorem dL_law_584 : decode cL_law 584 = .ok (.aload_n 2, 1) := by decide +kernel
theorem dL_law_585 : decode cL_law 585 = .ok (.aload_n 0, 1) := by decide +kernel
theorem dL_law_586 : decode cL_law 586 = .ok (.iload 4, 2) := by decide +kernel
theorem dL_law_588 : decode cL_law 588 = .ok (.iconst 1, 1) := by decide +kernel
theorem dL_law_589 : decode cL_law 589 = .ok (.iadd, 1) := by decide +kernel
theorem dL_law_590 : decode cL_law 590 = .ok (.iaload, 1) := by decide +kernel
theorem dL_law_591 : decode cL_law 591 = .ok (.aload_n 0, 1) := by decide +kernel
theorem dL_law_592 : decode cL_law 592 = .ok (.iload 4, 2) := by decide +kernel
theorem dL_law_594 : decode cL_law 594 = .ok (.iconst 2, 1) := by decide +kernel
theorem dL_law_595 : decode cL_law 595 = .ok (.iadd, 1) := by decide +kernel
theorem dL_law_596 : decode cL_law 596 = .ok (.iaload, 1) := by decide +kernel
theorem dL_law_597 : decode cL_law 597 = .ok (.invokevirtual 84, 3) := by decide +kernel
theorem dL_law_600 : decode cL_law 600 = .ok (.istore 6, 2) := by decide +kernel
theorem dL_law_602 : decode cL_law 602 = .ok (.aload_n 2, 1) := by decide +kernel
theorem dL_law_603 : decode cL_law 603 = .ok (.invokevirtual 53, 3) := by decide +kernel
theorem dL_law_606 : decode cL_law 606 = .ok (.iload 5, 2) := by decide +kernel
theorem dL_law_608 : decode cL_law 608 = .ok (.if_icmp .eq 5, 3) := by decide +kernel
theorem dL_law_611 : decode cL_law 611 = .ok (.iconst 0, 1) := by decide +kernel
theorem dL_law_612 : decode cL_law 612 = .ok (.ireturn, 1) := by decide +kernel
theorem dL_law_613 : decode cL_law 613 = .ok (.iload 5, 2) := by decide +kernel
theorem dL_law_615 : decode cL_law 615 = .ok (.ifCond .ne 15, 3) := by decide +kernel
theorem dL_law_618 : decode cL_law 618 = .ok (.aload_n 3, 1) := by decide +kernel
theorem dL_law_619 : decode cL_law 619 = .ok (.iconst 0, 1) := by decide +kernel
theorem dL_law_620 : decode cL_law 620 = .ok (.laload, 1) := by decide +kernel
theorem dL_law_621 : decode cL_law 621 = .ok (.iload 6, 2) := by decide +kernel
theorem dL_law_623 : decode cL_law 623 = .ok (.i2l, 1) := by decide +kernel
theorem dL_law_624 : decode cL_law 624 = .ok (.lcmp, 1) := by decide +kernel
theorem dL_law_625 : decode cL_law 625 = .ok (.ifCond .eq 5, 3) := by decide +kernel
theorem dL_law_628 : decode cL_law 628 = .ok (.iconst 0, 1) := by decide +kernel
theorem dL_law_629 : decode cL_law 629 = .ok (.ireturn, 1) := by decide +kernel
theorem dL_law_630 : decode cL_law 630 = .ok (.goto 128, 3) := by decide +kernel
theorem dL_law_633 : decode cL_law 633 = .ok (.aload_n 1, 1) := by decide +kernel
theorem dL_law_634 : decode cL_law 634 = .ok (.invokevirtual 85, 3) := by decide +kernel
theorem dL_law_637 : decode cL_law 637 = .ok (.aload_n 2, 1) := by decide +kernel
theorem dL_law_638 : decode cL_law 638 = .ok (.invokevirtual 88, 3) := by decide +kernel
theorem dL_law_641 : decode cL_law 641 = .ok (.if_icmp .eq 117, 3) := by decide +kernel
theorem dL_law_644 : decode cL_law 644 = .ok (.iconst 0, 1) := by decide +kernel
theorem dL_law_645 : decode cL_law 645 = .ok (.ireturn, 1) := by decide +kernel
theorem dL_law_646 : decode cL_law 646 = .ok (.aload_n 1, 1) := by decide +kernel
theorem dL_law_647 : decode cL_law 647 = .ok (.aload_n 0, 1) := by decide +kernel
theorem dL_law_648 : decode cL_law 648 = .ok (.iload 4, 2) := by decide +kernel
theorem dL_law_650 : decode cL_law 650 = .ok (.iconst 1, 1) := by decide +kernel
theorem dL_law_651 : decode cL_law 651 = .ok (.iadd, 1) := by decide +kernel
theorem dL_law_652 : decode cL_law 652 = .ok (.iaload, 1) := by decide +kernel
theorem dL_law_653 : decode cL_law 653 = .ok (.aload_n 3, 1) := by decide +kernel
theorem dL_law_654 : decode cL_law 654 = .ok (.invokestatic 89, 3) := by decide +kernel
theorem dL_law_657 : decode cL_law 657 = .ok (.istore 5, 2) := by decide +kernel
theorem dL_law_659 : decode cL_law 659 = .ok (.aload_n 2, 1) := by decide +kernel
theorem dL_law_660 : decode cL_law 660 = .ok (.aload_n 0, 1) := by decide +kernel
theorem dL_law_661 : decode cL_law 661 = .ok (.iload 4, 2) := by decide +kernel
theorem dL_law_663 : decode cL_law 663 = .ok (.iconst 1, 1) := by decide +kernel
theorem dL_law_664 : decode cL_law 664 = .ok (.iadd, 1) := by decide +kernel
theorem dL_law_665 : decode cL_law 665 = .ok (.iaload, 1) := by decide +kernel
theorem dL_law_666 : decode cL_law 666 = .ok (.invokevirtual 91, 3) := by decide +kernel
theorem dL_law_669 : decode cL_law 669 = .ok (.istore 6, 2) := by decide +kernel
theorem dL_law_671 : decode cL_law 671 = .ok (.aload_n 2, 1) := by decide +kernel
theorem dL_law_672 : decode cL_law 672 = .ok (.invokevirtual 53, 3) := by decide +kernel
theorem dL_law_675 : decode cL_law 675 = .ok (.iload 5, 2) := by decide +kernel
theorem dL_law_677 : decode cL_law 677 = .ok (.if_icmp .eq 5, 3) := by decide +kernel
theorem dL_law_680 : decode cL_law 680 = .ok (.iconst 0, 1) := by decide +kernel
theorem dL_law_681 : decode cL_law 681 = .ok (.ireturn, 1) := by decide +kernel
theorem dL_law_682 : decode cL_law 682 = .ok (.iload 5, 2) := by decide +kernel
theorem dL_law_684 : decode cL_law 684 = .ok (.ifCond .ne 15, 3) := by decide +kernel
theorem dL_law_687 : decode cL_law 687 = .ok (.aload_n 3, 1) := by decide +kernel
theorem dL_law_688 : decode cL_law 688 = .ok (.iconst 0, 1) := by decide +kernel
theorem dL_law_689 : decode cL_law 689 = .ok (.laload, 1) := by decide +kernel
theorem dL_law_690 : decode cL_law 690 = .ok (.iload 6, 2) := by decide +kernel
theorem dL_law_692 : decode cL_law 692 = .ok (.i2l, 1) := by decide +kernel
theorem dL_law_693 : decode cL_law 693 = .ok (.lcmp, 1) := by decide +kernel
theorem dL_law_694 : decode cL_law 694 = .ok (.ifCond .eq 5, 3) := by decide +kernel
theorem dL_law_697 : decode cL_law 697 = .ok (.iconst 0, 1) := by decide +kernel
theorem dL_law_698 : decode cL_law 698 = .ok (.ireturn, 1) := by decide +kernel
theorem dL_law_699 : decode cL_law 699 = .ok (.goto 59, 3) := by decide +kernel
theorem dL_law_702 : decode cL_law 702 = .ok (.aload_n 1, 1) := by decide +kernel
theorem dL_law_703 : decode cL_law 703 = .ok (.aload_n 0, 1) := by decide +kernel
theorem dL_law_704 : decode cL_law 704 = .ok (.iload 4, 2) := by decide +kernel
theorem dL_law_706 : decode cL_law 706 = .ok (.iconst 1, 1) := by decide +kernel
theorem dL_law_707 : decode cL_law 707 = .ok (.iadd, 1) := by decide +kernel
theorem dL_law_708 : decode cL_law 708 = .ok (.iaload, 1) := by decide +kernel
theorem dL_law_709 : decode cL_law 709 = .ok (.aload_n 3, 1) := by decide +kernel
theorem dL_law_710 : decode cL_law 710 = .ok (.invokestatic 92, 3) := by decide +kernel
theorem dL_law_713 : decode cL_law 713 = .ok (.istore 5, 2) := by decide +kernel
theorem dL_law_715 : decode cL_law 715 = .ok (.aload_n 2, 1) := by decide +kernel
theorem dL_law_716 : decode cL_law 716 = .ok (.aload_n 0, 1) := by decide +kernel
theorem dL_law_717 : decode cL_law 717 = .ok (.iload 4, 2) := by decide +kernel
theorem dL_law_719 : decode cL_law 719 = .ok (.iconst 1, 1) := by decide +kernel
theorem dL_law_720 : decode cL_law 720 = .ok (.iadd, 1) := by decide +kernel
theorem dL_law_721 : decode cL_law 721 = .ok (.iaload, 1) := by decide +kernel
theorem dL_law_722 : decode cL_law 722 = .ok (.invokevirtual 94, 3) := by decide +kernel
theorem dL_law_725 : decode cL_law 725 = .ok (.istore 6, 2) := by decide +kernel
theorem dL_law_727 : decode cL_law 727 = .ok (.aload_n 2, 1) := by decide +kernel
theorem dL_law_728 : decode cL_law 728 = .ok (.invokevirtual 53, 3) := by decide +kernel
theorem dL_law_731 : decode cL_law 731 = .ok (.iload 5, 2) := by decide +kernel
theorem dL_law_733 : decode cL_law 733 = .ok (.if_icmp .eq 5, 3) := by decide +kernel
theorem dL_law_736 : decode cL_law 736 = .ok (.iconst 0, 1) := by decide +kernel
theorem dL_law_737 : decode cL_law 737 = .ok (.ireturn, 1) := by decide +kernel
theorem dL_law_738 : decode cL_law 738 = .ok (.iload 5, 2) := by decide +kernel
theorem dL_law_740 : decode cL_law 740 = .ok (.ifCond .ne 15, 3) := by decide +kernel
theorem dL_law_743 : decode cL_law 743 = .ok (.aload_n 3, 1) := by decide +kernel
theorem dL_law_744 : decode cL_law 744 = .ok (.iconst 0, 1) := by decide +kernel
theorem dL_law_745 : decode cL_law 745 = .ok (.laload, 1) := by decide +kernel
theorem dL_law_746 : decode cL_law 746 = .ok (.iload 6, 2) := by decide +kernel
theorem dL_law_748 : decode cL_law 748 = .ok (.i2l, 1) := by decide +kernel
theorem dL_law_749 : decode cL_law 749 = .ok (.lcmp, 1) := by decide +kernel
theorem dL_law_750 : decode cL_law 750 = .ok (.ifCond .eq 5, 3) := by decide +kernel
theorem dL_law_753 : decode cL_law 753 = .ok (.iconst 0, 1) := by decide +kernel
theorem dL_law_754 : decode cL_law 754 = .ok (.ireturn, 1) := by decide +kernel
theorem dL_law_755 : decode cL_law 755 = .ok (.goto 3, 3) := by decide +kernel
theorem dL_law_758 : decode cL_law 758 = .ok (.iinc 4 4, 3) := by decide +kernel
theorem dL_law_761 : decode cL_law 761 = .ok (.goto (-738), 3) := by decide +kernel
theorem dL_law_764 : decode cL_law 764 = .ok (.iconst 1, 1) := by decide +kernel
theorem dL_law_765 : decode cL_law 765 = .ok (.ireturn, 1) := by decide +kernel
