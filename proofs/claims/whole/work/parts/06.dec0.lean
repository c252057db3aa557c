theorem dX0_init_0 : decode cX0_init 0 = .ok (.aload_n 0, 1) := by decide +kernel
theorem dX0_init_1 : decode cX0_init 1 = .ok (.invokespecial 3, 3) := by decide +kernel
theorem dX0_init_4 : decode cX0_init 4 = .ok (.aload_n 0, 1) := by decide +kernel
theorem dX0_init_5 : decode cX0_init 5 = .ok (.bipush 40, 2) := by decide +kernel
theorem dX0_init_7 : decode cX0_init 7 = .ok (.newarray .int, 2) := by decide +kernel
theorem dX0_init_9 : decode cX0_init 9 = .ok (.putfield 9, 3) := by decide +kernel
theorem dX0_init_12 : decode cX0_init 12 = .ok (.aload_n 0, 1) := by decide +kernel
theorem dX0_init_13 : decode cX0_init 13 = .ok (.bipush 40, 2) := by decide +kernel
theorem dX0_init_15 : decode cX0_init 15 = .ok (.newarray .int, 2) := by decide +kernel
theorem dX0_init_17 : decode cX0_init 17 = .ok (.putfield 15, 3) := by decide +kernel
theorem dX0_init_20 : decode cX0_init 20 = .ok (.aload_n 0, 1) := by decide +kernel
theorem dX0_init_21 : decode cX0_init 21 = .ok (.bipush 40, 2) := by decide +kernel
theorem dX0_init_23 : decode cX0_init 23 = .ok (.newarray .int, 2) := by decide +kernel
theorem dX0_init_25 : decode cX0_init 25 = .ok (.putfield 18, 3) := by decide +kernel
theorem dX0_init_28 : decode cX0_init 28 = .ok (.aload_n 0, 1) := by decide +kernel
theorem dX0_init_29 : decode cX0_init 29 = .ok (.iconst 0, 1) := by decide +kernel
theorem dX0_init_30 : decode cX0_init 30 = .ok (.putfield 21, 3) := by decide +kernel
theorem dX0_init_33 : decode cX0_init 33 = .ok (.return_, 1) := by decide +kernel
theorem dX0_keep_0 : decode cX0_keep 0 = .ok (.aload_n 0, 1) := by decide +kernel
theorem dX0_keep_1 : decode cX0_keep 1 = .ok (.getfield 21, 3) := by decide +kernel
theorem dX0_keep_4 : decode cX0_keep 4 = .ok (.bipush 40, 2) := by decide +kernel
theorem dX0_keep_6 : decode cX0_keep 6 = .ok (.if_icmp .lt 54, 3) := by decide +kernel
theorem dX0_keep_9 : decode cX0_keep 9 = .ok (.aload_n 0, 1) := by decide +kernel
theorem dX0_keep_10 : decode cX0_keep 10 = .ok (.getfield 9, 3) := by decide +kernel
theorem dX0_keep_13 : decode cX0_keep 13 = .ok (.iconst 1, 1) := by decide +kernel
theorem dX0_keep_14 : decode cX0_keep 14 = .ok (.aload_n 0, 1) := by decide +kernel
theorem dX0_keep_15 : decode cX0_keep 15 = .ok (.getfield 9, 3) := by decide +kernel
theorem dX0_keep_18 : decode cX0_keep 18 = .ok (.iconst 0, 1) := by decide +kernel
theorem dX0_keep_19 : decode cX0_keep 19 = .ok (.bipush 39, 2) := by decide +kernel
theorem dX0_keep_21 : decode cX0_keep 21 = .ok (.invokestatic 25, 3) := by decide +kernel
theorem dX0_keep_24 : decode cX0_keep 24 = .ok (.aload_n 0, 1) := by decide +kernel
theorem dX0_keep_25 : decode cX0_keep 25 = .ok (.getfield 15, 3) := by decide +kernel
theorem dX0_keep_28 : decode cX0_keep 28 = .ok (.iconst 1, 1) := by decide +kernel
theorem dX0_keep_29 : decode cX0_keep 29 = .ok (.aload_n 0, 1) := by decide +kernel
theorem dX0_keep_30 : decode cX0_keep 30 = .ok (.getfield 15, 3) := by decide +kernel
theorem dX0_keep_33 : decode cX0_keep 33 = .ok (.iconst 0, 1) := by decide +kernel
theorem dX0_keep_34 : decode cX0_keep 34 = .ok (.bipush 39, 2) := by decide +kernel
theorem dX0_keep_36 : decode cX0_keep 36 = .ok (.invokestatic 25, 3) := by decide +kernel
theorem dX0_keep_39 : decode cX0_keep 39 = .ok (.aload_n 0, 1) := by decide +kernel
theorem dX0_keep_40 : decode cX0_keep 40 = .ok (.getfield 18, 3) := by decide +kernel
theorem dX0_keep_43 : decode cX0_keep 43 = .ok (.iconst 1, 1) := by decide +kernel
theorem dX0_keep_44 : decode cX0_keep 44 = .ok (.aload_n 0, 1) := by decide +kernel
theorem dX0_keep_45 : decode cX0_keep 45 = .ok (.getfield 18, 3) := by decide +kernel
theorem dX0_keep_48 : decode cX0_keep 48 = .ok (.iconst 0, 1) := by decide +kernel
theorem dX0_keep_49 : decode cX0_keep 49 = .ok (.bipush 39, 2) := by decide +kernel
theorem dX0_keep_51 : decode cX0_keep 51 = .ok (.invokestatic 25, 3) := by decide +kernel
theorem dX0_keep_54 : decode cX0_keep 54 = .ok (.aload_n 0, 1) := by decide +kernel
theorem dX0_keep_55 : decode cX0_keep 55 = .ok (.bipush 39, 2) := by decide +kernel
theorem dX0_keep_57 : decode cX0_keep 57 = .ok (.putfield 21, 3) := by decide +kernel
theorem dX0_keep_60 : decode cX0_keep 60 = .ok (.aload_n 0, 1) := by decide +kernel
theorem dX0_keep_61 : decode cX0_keep 61 = .ok (.getfield 9, 3) := by decide +kernel
theorem dX0_keep_64 : decode cX0_keep 64 = .ok (.aload_n 0, 1) := by decide +kernel
theorem dX0_keep_65 : decode cX0_keep 65 = .ok (.getfield 21, 3) := by decide +kernel
theorem dX0_keep_68 : decode cX0_keep 68 = .ok (.iload_n 1, 1) := by decide +kernel
theorem dX0_keep_69 : decode cX0_keep 69 = .ok (.iastore, 1) := by decide +kernel
theorem dX0_keep_70 : decode cX0_keep 70 = .ok (.aload_n 0, 1) := by decide +kernel
theorem dX0_keep_71 : decode cX0_keep 71 = .ok (.getfield 15, 3) := by decide +kernel
theorem dX0_keep_74 : decode cX0_keep 74 = .ok (.aload_n 0, 1) := by decide +kernel
theorem dX0_keep_75 : decode cX0_keep 75 = .ok (.getfield 21, 3) := by decide +kernel
theorem dX0_keep_78 : decode cX0_keep 78 = .ok (.iload_n 2, 1) := by decide +kernel
theorem dX0_keep_79 : decode cX0_keep 79 = .ok (.iastore, 1) := by decide +kernel
theorem dX0_keep_80 : decode cX0_keep 80 = .ok (.aload_n 0, 1) := by decide +kernel
theorem dX0_keep_81 : decode cX0_keep 81 = .ok (.getfield 18, 3) := by decide +kernel
theorem dX0_keep_84 : decode cX0_keep 84 = .ok (.aload_n 0, 1) := by decide +kernel
theorem dX0_keep_85 : decode cX0_keep 85 = .ok (.getfield 21, 3) := by decide +kernel
theorem dX0_keep_88 : decode cX0_keep 88 = .ok (.iload_n 3, 1) := by decide +kernel
theorem dX0_keep_89 : decode cX0_keep 89 = .ok (.iastore, 1) := by decide +kernel
theorem dX0_keep_90 : decode cX0_keep 90 = .ok (.aload_n 0, 1) := by decide +kernel
theorem dX0_keep_91 : decode cX0_keep 91 = .ok (.dup, 1) := by decide +kernel
theorem dX0_keep_92 : decode cX0_keep 92 = .ok (.getfield 21, 3) := by decide +kernel
theorem dX0_keep_95 : decode cX0_keep 95 = .ok (.iconst 1, 1) := by decide +kernel
theorem dX0_keep_96 : decode cX0_keep 96 = .ok (.iadd, 1) := by decide +kernel
theorem dX0_keep_97 : decode cX0_keep 97 = .ok (.putfield 21, 3) := by decide +kernel
theorem dX0_keep_100 : decode cX0_keep 100 = .ok (.return_, 1) := by decide +kernel
theorem dX0_take_0 : decode cX0_take 0 = .ok (.aload_n 1, 1) := by decide +kernel
theorem dX0_take_1 : decode cX0_take 1 = .ok (.getfield 9, 3) := by decide +kernel
theorem dX0_take_4 : decode cX0_take 4 = .ok (.iconst 0, 1) := by decide +kernel
theorem dX0_take_5 : decode cX0_take 5 = .ok (.aload_n 0, 1) := by decide +kernel
theorem dX0_take_6 : decode cX0_take 6 = .ok (.getfield 9, 3) := by decide +kernel
theorem dX0_take_9 : decode cX0_take 9 = .ok (.iconst 0, 1) := by decide +kernel
theorem dX0_take_10 : decode cX0_take 10 = .ok (.bipush 40, 2) := by decide +kernel
theorem dX0_take_12 : decode cX0_take 12 = .ok (.invokestatic 25, 3) := by decide +kernel
theorem dX0_take_15 : decode cX0_take 15 = .ok (.aload_n 1, 1) := by decide +kernel
theorem dX0_take_16 : decode cX0_take 16 = .ok (.getfield 15, 3) := by decide +kernel
theorem dX0_take_19 : decode cX0_take 19 = .ok (.iconst 0, 1) := by decide +kernel
theorem dX0_take_20 : decode cX0_take 20 = .ok (.aload_n 0, 1) := by decide +kernel
theorem dX0_take_21 : decode cX0_take 21 = .ok (.getfield 15, 3) := by decide +kernel
theorem dX0_take_24 : decode cX0_take 24 = .ok (.iconst 0, 1) := by decide +kernel
theorem dX0_take_25 : decode cX0_take 25 = .ok (.bipush 40, 2) := by decide +kernel
theorem dX0_take_27 : decode cX0_take 27 = .ok (.invokestatic 25, 3) := by decide +kernel
theorem dX0_take_30 : decode cX0_take 30 = .ok (.aload_n 1, 1) := by decide +kernel
theorem dX0_take_31 : decode cX0_take 31 = .ok (.getfield 18, 3) := by decide +kernel
theorem dX0_take_34 : decode cX0_take 34 = .ok (.iconst 0, 1) := by decide +kernel
theorem dX0_take_35 : decode cX0_take 35 = .ok (.aload_n 0, 1) := by decide +kernel
theorem dX0_take_36 : decode cX0_take 36 = .ok (.getfield 18, 3) := by decide +kernel
theorem dX0_take_39 : decode cX0_take 39 = .ok (.iconst 0, 1) := by decide +kernel
theorem dX0_take_40 : decode cX0_take 40 = .ok (.bipush 40, 2) := by decide +kernel
theorem dX0_take_42 : decode cX0_take 42 = .ok (.invokestatic 25, 3) := by decide +kernel
theorem dX0_take_45 : decode cX0_take 45 = .ok (.aload_n 0, 1) := by decide +kernel
theorem dX0_take_46 : decode cX0_take 46 = .ok (.aload_n 1, 1) := by decide +kernel
theorem dX0_take_47 : decode cX0_take 47 = .ok (.getfield 21, 3) := by decide +kernel
theorem dX0_take_50 : decode cX0_take 50 = .ok (.putfield 21, 3) := by decide +kernel
theorem dX0_take_53 : decode cX0_take 53 = .ok (.return_, 1) := by decide +kernel
theorem dX1_init_0 : decode cX1_init 0 = .ok (.aload_n 0, 1) := by decide +kernel
theorem dX1_init_1 : decode cX1_init 1 = .ok (.invokespecial 3, 3) := by decide +kernel
theorem dX1_init_4 : decode cX1_init 4 = .ok (.aload_n 0, 1) := by decide +kernel
theorem dX1_init_5 : decode cX1_init 5 = .ok (.bipush 8, 2) := by decide +kernel
theorem dX1_init_7 : decode cX1_init 7 = .ok (.putfield 9, 3) := by decide +kernel
theorem dX1_init_10 : decode cX1_init 10 = .ok (.aload_n 0, 1) := by decide +kernel
theorem dX1_init_11 : decode cX1_init 11 = .ok (.bipush 8, 2) := by decide +kernel
theorem dX1_init_13 : decode cX1_init 13 = .ok (.putfield 15, 3) := by decide +kernel
theorem dX1_init_16 : decode cX1_init 16 = .ok (.aload_n 0, 1) := by decide +kernel
theorem dX1_init_17 : decode cX1_init 17 = .ok (.iconst 0, 1) := by decide +kernel
theorem dX1_init_18 : decode cX1_init 18 = .ok (.putfield 18, 3) := by decide +kernel
theorem dX1_init_21 : decode cX1_init 21 = .ok (.aload_n 0, 1) := by decide +kernel
theorem dX1_init_22 : decode cX1_init 22 = .ok (.iconst 0, 1) := by decide +kernel
theorem dX1_init_23 : decode cX1_init 23 = .ok (.putfield 21, 3) := by decide +kernel
theorem dX1_init_26 : decode cX1_init 26 = .ok (.aload_n 0, 1) := by decide +kernel
theorem dX1_init_27 : decode cX1_init 27 = .ok (.iconst 0, 1) := by decide +kernel
theorem dX1_init_28 : decode cX1_init 28 = .ok (.putfield 24, 3) := by decide +kernel
theorem dX1_init_31 : decode cX1_init 31 = .ok (.aload_n 0, 1) := by decide +kernel
theorem dX1_init_32 : decode cX1_init 32 = .ok (.iconst 0, 1) := by decide +kernel
theorem dX1_init_33 : decode cX1_init 33 = .ok (.putfield 27, 3) := by decide +kernel
theorem dX1_init_36 : decode cX1_init 36 = .ok (.aload_n 0, 1) := by decide +kernel
theorem dX1_init_37 : decode cX1_init 37 = .ok (.sipush 144, 3) := by decide +kernel
theorem dX1_init_40 : decode cX1_init 40 = .ok (.newarray .boolean, 2) := by decide +kernel
theorem dX1_init_42 : decode cX1_init 42 = .ok (.putfield 30, 3) := by decide +kernel
theorem dX1_init_45 : decode cX1_init 45 = .ok (.aload_n 0, 1) := by decide +kernel
theorem dX1_init_46 : decode cX1_init 46 = .ok (.bipush 12, 2) := by decide +kernel
theorem dX1_init_48 : decode cX1_init 48 = .ok (.newarray .int, 2) := by decide +kernel
theorem dX1_init_50 : decode cX1_init 50 = .ok (.putfield 34, 3) := by decide +kernel
theorem dX1_init_53 : decode cX1_init 53 = .ok (.aload_n 0, 1) := by decide +kernel
theorem dX1_init_54 : decode cX1_init 54 = .ok (.bipush 12, 2) := by decide +kernel
theorem dX1_init_56 : decode cX1_init 56 = .ok (.newarray .int, 2) := by decide +kernel
theorem dX1_init_58 : decode cX1_init 58 = .ok (.putfield 38, 3) := by decide +kernel
theorem dX1_init_61 : decode cX1_init 61 = .ok (.aload_n 0, 1) := by decide +kernel
theorem dX1_init_62 : decode cX1_init 62 = .ok (.iconst 5, 1) := by decide +kernel
theorem dX1_init_63 : decode cX1_init 63 = .ok (.newarray .int, 2) := by decide +kernel
theorem dX1_init_65 : decode cX1_init 65 = .ok (.putfield 41, 3) := by decide +kernel
theorem dX1_init_68 : decode cX1_init 68 = .ok (.aload_n 0, 1) := by decide +kernel
theorem dX1_init_69 : decode cX1_init 69 = .ok (.iconst 5, 1) := by decide +kernel
theorem dX1_init_70 : decode cX1_init 70 = .ok (.newarray .int, 2) := by decide +kernel
theorem dX1_init_72 : decode cX1_init 72 = .ok (.putfield 44, 3) := by decide +kernel
theorem dX1_init_75 : decode cX1_init 75 = .ok (.aload_n 0, 1) := by decide +kernel
theorem dX1_init_76 : decode cX1_init 76 = .ok (.iconst 5, 1) := by decide +kernel
theorem dX1_init_77 : decode cX1_init 77 = .ok (.newarray .int, 2) := by decide +kernel
theorem dX1_init_79 : decode cX1_init 79 = .ok (.putfield 47, 3) := by decide +kernel
theorem dX1_init_82 : decode cX1_init 82 = .ok (.aload_n 0, 1) := by decide +kernel
theorem dX1_init_83 : decode cX1_init 83 = .ok (.bipush 60, 2) := by decide +kernel
theorem dX1_init_85 : decode cX1_init 85 = .ok (.newarray .int, 2) := by decide +kernel
theorem dX1_init_87 : decode cX1_init 87 = .ok (.putfield 50, 3) := by decide +kernel
theorem dX1_init_90 : decode cX1_init 90 = .ok (.aload_n 0, 1) := by decide +kernel
theorem dX1_init_91 : decode cX1_init 91 = .ok (.iconst 5, 1) := by decide +kernel
theorem dX1_init_92 : decode cX1_init 92 = .ok (.newarray .int, 2) := by decide +kernel
theorem dX1_init_94 : decode cX1_init 94 = .ok (.putfield 53, 3) := by decide +kernel
theorem dX1_init_97 : decode cX1_init 97 = .ok (.aload_n 0, 1) := by decide +kernel
theorem dX1_init_98 : decode cX1_init 98 = .ok (.iconst 5, 1) := by decide +kernel
theorem dX1_init_99 : decode cX1_init 99 = .ok (.newarray .int, 2) := by decide +kernel
theorem dX1_init_101 : decode cX1_init 101 = .ok (.putfield 56, 3) := by decide +kernel
theorem dX1_init_104 : decode cX1_init 104 = .ok (.aload_n 0, 1) := by decide +kernel
theorem dX1_init_105 : decode cX1_init 105 = .ok (.bipush 8, 2) := by decide +kernel
theorem dX1_init_107 : decode cX1_init 107 = .ok (.newarray .int, 2) := by decide +kernel
theorem dX1_init_109 : decode cX1_init 109 = .ok (.putfield 59, 3) := by decide +kernel
theorem dX1_init_112 : decode cX1_init 112 = .ok (.aload_n 0, 1) := by decide +kernel
theorem dX1_init_113 : decode cX1_init 113 = .ok (.new 62, 3) := by decide +kernel
theorem dX1_init_116 : decode cX1_init 116 = .ok (.dup, 1) := by decide +kernel
theorem dX1_init_117 : decode cX1_init 117 = .ok (.invokespecial 64, 3) := by decide +kernel
theorem dX1_init_120 : decode cX1_init 120 = .ok (.putfield 65, 3) := by decide +kernel
theorem dX1_init_123 : decode cX1_init 123 = .ok (.return_, 1) := by decide +kernel
theorem dX1_clear_0 : decode cX1_clear 0 = .ok (.aload_n 0, 1) := by decide +kernel
theorem dX1_clear_1 : decode cX1_clear 1 = .ok (.bipush 8, 2) := by decide +kernel
theorem dX1_clear_3 : decode cX1_clear 3 = .ok (.putfield 9, 3) := by decide +kernel
theorem dX1_clear_6 : decode cX1_clear 6 = .ok (.aload_n 0, 1) := by decide +kernel
theorem dX1_clear_7 : decode cX1_clear 7 = .ok (.bipush 8, 2) := by decide +kernel
theorem dX1_clear_9 : decode cX1_clear 9 = .ok (.putfield 15, 3) := by decide +kernel
theorem dX1_clear_12 : decode cX1_clear 12 = .ok (.aload_n 0, 1) := by decide +kernel
theorem dX1_clear_13 : decode cX1_clear 13 = .ok (.iconst 0, 1) := by decide +kernel
theorem dX1_clear_14 : decode cX1_clear 14 = .ok (.putfield 18, 3) := by decide +kernel
theorem dX1_clear_17 : decode cX1_clear 17 = .ok (.aload_n 0, 1) := by decide +kernel
theorem dX1_clear_18 : decode cX1_clear 18 = .ok (.iconst 0, 1) := by decide +kernel
theorem dX1_clear_19 : decode cX1_clear 19 = .ok (.putfield 21, 3) := by decide +kernel
theorem dX1_clear_22 : decode cX1_clear 22 = .ok (.aload_n 0, 1) := by decide +kernel
theorem dX1_clear_23 : decode cX1_clear 23 = .ok (.iconst 0, 1) := by decide +kernel
theorem dX1_clear_24 : decode cX1_clear 24 = .ok (.putfield 24, 3) := by decide +kernel
theorem dX1_clear_27 : decode cX1_clear 27 = .ok (.aload_n 0, 1) := by decide +kernel
theorem dX1_clear_28 : decode cX1_clear 28 = .ok (.iconst 0, 1) := by decide +kernel
theorem dX1_clear_29 : decode cX1_clear 29 = .ok (.putfield 27, 3) := by decide +kernel
theorem dX1_clear_32 : decode cX1_clear 32 = .ok (.aload_n 0, 1) := by decide +kernel
theorem dX1_clear_33 : decode cX1_clear 33 = .ok (.getfield 65, 3) := by decide +kernel
theorem dX1_clear_36 : decode cX1_clear 36 = .ok (.invokevirtual 69, 3) := by decide +kernel
theorem dX1_clear_39 : decode cX1_clear 39 = .ok (.iconst 0, 1) := by decide +kernel
theorem dX1_clear_40 : decode cX1_clear 40 = .ok (.istore_n 1, 1) := by decide +kernel
theorem dX1_clear_41 : decode cX1_clear 41 = .ok (.iload_n 1, 1) := by decide +kernel
theorem dX1_clear_42 : decode cX1_clear 42 = .ok (.sipush 144, 3) := by decide +kernel
theorem dX1_clear_45 : decode cX1_clear 45 = .ok (.if_icmp .ge 16, 3) := by decide +kernel
theorem dX1_clear_48 : decode cX1_clear 48 = .ok (.aload_n 0, 1) := by decide +kernel
theorem dX1_clear_49 : decode cX1_clear 49 = .ok (.getfield 30, 3) := by decide +kernel
theorem dX1_clear_52 : decode cX1_clear 52 = .ok (.iload_n 1, 1) := by decide +kernel
theorem dX1_clear_53 : decode cX1_clear 53 = .ok (.iconst 0, 1) := by decide +kernel
theorem dX1_clear_54 : decode cX1_clear 54 = .ok (.bastore, 1) := by decide +kernel
theorem dX1_clear_55 : decode cX1_clear 55 = .ok (.iinc 1 1, 3) := by decide +kernel
theorem dX1_clear_58 : decode cX1_clear 58 = .ok (.goto (-17), 3) := by decide +kernel
theorem dX1_clear_61 : decode cX1_clear 61 = .ok (.return_, 1) := by decide +kernel
theorem dX1_cells_0 : decode cX1_cells 0 = .ok (.aload_n 0, 1) := by decide +kernel
theorem dX1_cells_1 : decode cX1_cells 1 = .ok (.getfield 9, 3) := by decide +kernel
theorem dX1_cells_4 : decode cX1_cells 4 = .ok (.aload_n 0, 1) := by decide +kernel
theorem dX1_cells_5 : decode cX1_cells 5 = .ok (.getfield 15, 3) := by decide +kernel
theorem dX1_cells_8 : decode cX1_cells 8 = .ok (.imul, 1) := by decide +kernel
theorem dX1_cells_9 : decode cX1_cells 9 = .ok (.ireturn, 1) := by decide +kernel
theorem dX1_isOpen_0 : decode cX1_isOpen 0 = .ok (.iload_n 1, 1) := by decide +kernel
theorem dX1_isOpen_1 : decode cX1_isOpen 1 = .ok (.ifCond .lt 24, 3) := by decide +kernel
theorem dX1_isOpen_4 : decode cX1_isOpen 4 = .ok (.iload_n 1, 1) := by decide +kernel
theorem dX1_isOpen_5 : decode cX1_isOpen 5 = .ok (.aload_n 0, 1) := by decide +kernel
theorem dX1_isOpen_6 : decode cX1_isOpen 6 = .ok (.invokevirtual 72, 3) := by decide +kernel
theorem dX1_isOpen_9 : decode cX1_isOpen 9 = .ok (.if_icmp .ge 16, 3) := by decide +kernel
theorem dX1_isOpen_12 : decode cX1_isOpen 12 = .ok (.aload_n 0, 1) := by decide +kernel
theorem dX1_isOpen_13 : decode cX1_isOpen 13 = .ok (.getfield 30, 3) := by decide +kernel
theorem dX1_isOpen_16 : decode cX1_isOpen 16 = .ok (.iload_n 1, 1) := by decide +kernel
theorem dX1_isOpen_17 : decode cX1_isOpen 17 = .ok (.baload, 1) := by decide +kernel
theorem dX1_isOpen_18 : decode cX1_isOpen 18 = .ok (.ifCond .ne 7, 3) := by decide +kernel
theorem dX1_isOpen_21 : decode cX1_isOpen 21 = .ok (.iconst 1, 1) := by decide +kernel
theorem dX1_isOpen_22 : decode cX1_isOpen 22 = .ok (.goto 4, 3) := by decide +kernel
theorem dX1_isOpen_25 : decode cX1_isOpen 25 = .ok (.iconst 0, 1) := by decide +kernel
theorem dX1_isOpen_26 : decode cX1_isOpen 26 = .ok (.ireturn, 1) := by decide +kernel
theorem dX1_columnOf_0 : decode cX1_columnOf 0 = .ok (.aload_n 0, 1) := by decide +kernel
theorem dX1_columnOf_1 : decode cX1_columnOf 1 = .ok (.getfield 9, 3) := by decide +kernel
theorem dX1_columnOf_4 : decode cX1_columnOf 4 = .ok (.ifCond .gt 7, 3) := by decide +kernel
theorem dX1_columnOf_7 : decode cX1_columnOf 7 = .ok (.iconst 0, 1) := by decide +kernel
theorem dX1_columnOf_8 : decode cX1_columnOf 8 = .ok (.goto 9, 3) := by decide +kernel
theorem dX1_columnOf_11 : decode cX1_columnOf 11 = .ok (.iload_n 1, 1) := by decide +kernel
theorem dX1_columnOf_12 : decode cX1_columnOf 12 = .ok (.aload_n 0, 1) := by decide +kernel
theorem dX1_columnOf_13 : decode cX1_columnOf 13 = .ok (.getfield 9, 3) := by decide +kernel
theorem dX1_columnOf_16 : decode cX1_columnOf 16 = .ok (.irem, 1) := by decide +kernel
theorem dX1_columnOf_17 : decode cX1_columnOf 17 = .ok (.ireturn, 1) := by decide +kernel
theorem dX1_rowOf_0 : decode cX1_rowOf 0 = .ok (.aload_n 0, 1) := by decide +kernel
theorem dX1_rowOf_1 : decode cX1_rowOf 1 = .ok (.getfield 9, 3) := by decide +kernel
theorem dX1_rowOf_4 : decode cX1_rowOf 4 = .ok (.ifCond .gt 7, 3) := by decide +kernel
theorem dX1_rowOf_7 : decode cX1_rowOf 7 = .ok (.iconst 0, 1) := by decide +kernel
theorem dX1_rowOf_8 : decode cX1_rowOf 8 = .ok (.goto 9, 3) := by decide +kernel
theorem dX1_rowOf_11 : decode cX1_rowOf 11 = .ok (.iload_n 1, 1) := by decide +kernel
theorem dX1_rowOf_12 : decode cX1_rowOf 12 = .ok (.aload_n 0, 1) := by decide +kernel
theorem dX1_rowOf_13 : decode cX1_rowOf 13 = .ok (.getfield 9, 3) := by decide +kernel
theorem dX1_rowOf_16 : decode cX1_rowOf 16 = .ok (.idiv, 1) := by decide +kernel
theorem dX1_rowOf_17 : decode cX1_rowOf 17 = .ok (.ireturn, 1) := by decide +kernel
theorem dX1_stepOf_0 : decode cX1_stepOf 0 = .ok (.aload_n 0, 1) := by decide +kernel
theorem dX1_stepOf_1 : decode cX1_stepOf 1 = .ok (.getfield 50, 3) := by decide +kernel
theorem dX1_stepOf_4 : decode cX1_stepOf 4 = .ok (.iload_n 1, 1) := by decide +kernel
theorem dX1_stepOf_5 : decode cX1_stepOf 5 = .ok (.bipush 12, 2) := by decide +kernel
theorem dX1_stepOf_7 : decode cX1_stepOf 7 = .ok (.imul, 1) := by decide +kernel
theorem dX1_stepOf_8 : decode cX1_stepOf 8 = .ok (.iload_n 2, 1) := by decide +kernel
theorem dX1_stepOf_9 : decode cX1_stepOf 9 = .ok (.aload_n 0, 1) := by decide +kernel
theorem dX1_stepOf_10 : decode cX1_stepOf 10 = .ok (.getfield 47, 3) := by decide +kernel
theorem dX1_stepOf_13 : decode cX1_stepOf 13 = .ok (.iload_n 1, 1) := by decide +kernel
theorem dX1_stepOf_14 : decode cX1_stepOf 14 = .ok (.iaload, 1) := by decide +kernel
theorem dX1_stepOf_15 : decode cX1_stepOf 15 = .ok (.invokestatic 76, 3) := by decide +kernel
theorem dX1_stepOf_18 : decode cX1_stepOf 18 = .ok (.iadd, 1) := by decide +kernel
theorem dX1_stepOf_19 : decode cX1_stepOf 19 = .ok (.iaload, 1) := by decide +kernel
theorem dX1_stepOf_20 : decode cX1_stepOf 20 = .ok (.ireturn, 1) := by decide +kernel
theorem dX1_cellBehind_0 : decode cX1_cellBehind 0 = .ok (.aload_n 0, 1) := by decide +kernel
theorem dX1_cellBehind_1 : decode cX1_cellBehind 1 = .ok (.iload_n 1, 1) := by decide +kernel
theorem dX1_cellBehind_2 : decode cX1_cellBehind 2 = .ok (.invokevirtual 80, 3) := by decide +kernel
theorem dX1_cellBehind_5 : decode cX1_cellBehind 5 = .ok (.istore_n 3, 1) := by decide +kernel
theorem dX1_cellBehind_6 : decode cX1_cellBehind 6 = .ok (.aload_n 0, 1) := by decide +kernel
theorem dX1_cellBehind_7 : decode cX1_cellBehind 7 = .ok (.iload_n 1, 1) := by decide +kernel
theorem dX1_cellBehind_8 : decode cX1_cellBehind 8 = .ok (.invokevirtual 84, 3) := by decide +kernel
theorem dX1_cellBehind_11 : decode cX1_cellBehind 11 = .ok (.istore 4, 2) := by decide +kernel
theorem dX1_cellBehind_13 : decode cX1_cellBehind 13 = .ok (.iload_n 2, 1) := by decide +kernel
theorem dX1_cellBehind_14 : decode cX1_cellBehind 14 = .ok (.tableswitch 98 0 3 #[30, 46, 64, 86], 30) := by decide +kernel
theorem dX1_cellBehind_44 : decode cX1_cellBehind 44 = .ok (.iload 4, 2) := by decide +kernel
theorem dX1_cellBehind_46 : decode cX1_cellBehind 46 = .ok (.ifCond .le 12, 3) := by decide +kernel
theorem dX1_cellBehind_49 : decode cX1_cellBehind 49 = .ok (.iload_n 1, 1) := by decide +kernel
theorem dX1_cellBehind_50 : decode cX1_cellBehind 50 = .ok (.aload_n 0, 1) := by decide +kernel
theorem dX1_cellBehind_51 : decode cX1_cellBehind 51 = .ok (.getfield 9, 3) := by decide +kernel
theorem dX1_cellBehind_54 : decode cX1_cellBehind 54 = .ok (.isub, 1) := by decide +kernel
theorem dX1_cellBehind_55 : decode cX1_cellBehind 55 = .ok (.goto 4, 3) := by decide +kernel
theorem dX1_cellBehind_58 : decode cX1_cellBehind 58 = .ok (.iconst (-1), 1) := by decide +kernel
theorem dX1_cellBehind_59 : decode cX1_cellBehind 59 = .ok (.ireturn, 1) := by decide +kernel
theorem dX1_cellBehind_60 : decode cX1_cellBehind 60 = .ok (.iload_n 3, 1) := by decide +kernel
theorem dX1_cellBehind_61 : decode cX1_cellBehind 61 = .ok (.iconst 1, 1) := by decide +kernel
theorem dX1_cellBehind_62 : decode cX1_cellBehind 62 = .ok (.iadd, 1) := by decide +kernel
theorem dX1_cellBehind_63 : decode cX1_cellBehind 63 = .ok (.aload_n 0, 1) := by decide +kernel
theorem dX1_cellBehind_64 : decode cX1_cellBehind 64 = .ok (.getfield 9, 3) := by decide +kernel
theorem dX1_cellBehind_67 : decode cX1_cellBehind 67 = .ok (.if_icmp .ge 9, 3) := by decide +kernel
theorem dX1_cellBehind_70 : decode cX1_cellBehind 70 = .ok (.iload_n 1, 1) := by decide +kernel
theorem dX1_cellBehind_71 : decode cX1_cellBehind 71 = .ok (.iconst 1, 1) := by decide +kernel
theorem dX1_cellBehind_72 : decode cX1_cellBehind 72 = .ok (.iadd, 1) := by decide +kernel
theorem dX1_cellBehind_73 : decode cX1_cellBehind 73 = .ok (.goto 4, 3) := by decide +kernel
theorem dX1_cellBehind_76 : decode cX1_cellBehind 76 = .ok (.iconst (-1), 1) := by decide +kernel
theorem dX1_cellBehind_77 : decode cX1_cellBehind 77 = .ok (.ireturn, 1) := by decide +kernel
theorem dX1_cellBehind_78 : decode cX1_cellBehind 78 = .ok (.iload 4, 2) := by decide +kernel
theorem dX1_cellBehind_80 : decode cX1_cellBehind 80 = .ok (.iconst 1, 1) := by decide +kernel
theorem dX1_cellBehind_81 : decode cX1_cellBehind 81 = .ok (.iadd, 1) := by decide +kernel
theorem dX1_cellBehind_82 : decode cX1_cellBehind 82 = .ok (.aload_n 0, 1) := by decide +kernel
theorem dX1_cellBehind_83 : decode cX1_cellBehind 83 = .ok (.getfield 15, 3) := by decide +kernel
theorem dX1_cellBehind_86 : decode cX1_cellBehind 86 = .ok (.if_icmp .ge 12, 3) := by decide +kernel
theorem dX1_cellBehind_89 : decode cX1_cellBehind 89 = .ok (.iload_n 1, 1) := by decide +kernel
theorem dX1_cellBehind_90 : decode cX1_cellBehind 90 = .ok (.aload_n 0, 1) := by decide +kernel
theorem dX1_cellBehind_91 : decode cX1_cellBehind 91 = .ok (.getfield 9, 3) := by decide +kernel
theorem dX1_cellBehind_94 : decode cX1_cellBehind 94 = .ok (.iadd, 1) := by decide +kernel
theorem dX1_cellBehind_95 : decode cX1_cellBehind 95 = .ok (.goto 4, 3) := by decide +kernel
theorem dX1_cellBehind_98 : decode cX1_cellBehind 98 = .ok (.iconst (-1), 1) := by decide +kernel
theorem dX1_cellBehind_99 : decode cX1_cellBehind 99 = .ok (.ireturn, 1) := by decide +kernel
theorem dX1_cellBehind_100 : decode cX1_cellBehind 100 = .ok (.iload_n 3, 1) := by decide +kernel
theorem dX1_cellBehind_101 : decode cX1_cellBehind 101 = .ok (.ifCond .le 9, 3) := by decide +kernel
theorem dX1_cellBehind_104 : decode cX1_cellBehind 104 = .ok (.iload_n 1, 1) := by decide +kernel
theorem dX1_cellBehind_105 : decode cX1_cellBehind 105 = .ok (.iconst 1, 1) := by decide +kernel
theorem dX1_cellBehind_106 : decode cX1_cellBehind 106 = .ok (.isub, 1) := by decide +kernel
theorem dX1_cellBehind_107 : decode cX1_cellBehind 107 = .ok (.goto 4, 3) := by decide +kernel
theorem dX1_cellBehind_110 : decode cX1_cellBehind 110 = .ok (.iconst (-1), 1) := by decide +kernel
theorem dX1_cellBehind_111 : decode cX1_cellBehind 111 = .ok (.ireturn, 1) := by decide +kernel
theorem dX1_cellBehind_112 : decode cX1_cellBehind 112 = .ok (.iload_n 1, 1) := by decide +kernel
theorem dX1_cellBehind_113 : decode cX1_cellBehind 113 = .ok (.ireturn, 1) := by decide +kernel
theorem dX1_farBetween_0 : decode cX1_farBetween 0 = .ok (.aload_n 0, 1) := by decide +kernel
theorem dX1_farBetween_1 : decode cX1_farBetween 1 = .ok (.iload_n 1, 1) := by decide +kernel
theorem dX1_farBetween_2 : decode cX1_farBetween 2 = .ok (.invokevirtual 80, 3) := by decide +kernel
theorem dX1_farBetween_5 : decode cX1_farBetween 5 = .ok (.aload_n 0, 1) := by decide +kernel
theorem dX1_farBetween_6 : decode cX1_farBetween 6 = .ok (.iload_n 2, 1) := by decide +kernel
theorem dX1_farBetween_7 : decode cX1_farBetween 7 = .ok (.invokevirtual 80, 3) := by decide +kernel
theorem dX1_farBetween_10 : decode cX1_farBetween 10 = .ok (.isub, 1) := by decide +kernel
theorem dX1_farBetween_11 : decode cX1_farBetween 11 = .ok (.invokestatic 87, 3) := by decide +kernel
theorem dX1_farBetween_14 : decode cX1_farBetween 14 = .ok (.aload_n 0, 1) := by decide +kernel
theorem dX1_farBetween_15 : decode cX1_farBetween 15 = .ok (.iload_n 1, 1) := by decide +kernel
theorem dX1_farBetween_16 : decode cX1_farBetween 16 = .ok (.invokevirtual 84, 3) := by decide +kernel
theorem dX1_farBetween_19 : decode cX1_farBetween 19 = .ok (.aload_n 0, 1) := by decide +kernel
theorem dX1_farBetween_20 : decode cX1_farBetween 20 = .ok (.iload_n 2, 1) := by decide +kernel
theorem dX1_farBetween_21 : decode cX1_farBetween 21 = .ok (.invokevirtual 84, 3) := by decide +kernel
theorem dX1_farBetween_24 : decode cX1_farBetween 24 = .ok (.isub, 1) := by decide +kernel
theorem dX1_farBetween_25 : decode cX1_farBetween 25 = .ok (.invokestatic 87, 3) := by decide +kernel
theorem dX1_farBetween_28 : decode cX1_farBetween 28 = .ok (.invokestatic 92, 3) := by decide +kernel
theorem dX1_farBetween_31 : decode cX1_farBetween 31 = .ok (.ireturn, 1) := by decide +kernel
theorem dX1_sight_0 : decode cX1_sight 0 = .ok (.aload_n 0, 1) := by decide +kernel
theorem dX1_sight_1 : decode cX1_sight 1 = .ok (.iload_n 1, 1) := by decide +kernel
theorem dX1_sight_2 : decode cX1_sight 2 = .ok (.invokevirtual 80, 3) := by decide +kernel
theorem dX1_sight_5 : decode cX1_sight 5 = .ok (.istore_n 3, 1) := by decide +kernel
theorem dX1_sight_6 : decode cX1_sight 6 = .ok (.aload_n 0, 1) := by decide +kernel
theorem dX1_sight_7 : decode cX1_sight 7 = .ok (.iload_n 1, 1) := by decide +kernel
theorem dX1_sight_8 : decode cX1_sight 8 = .ok (.invokevirtual 84, 3) := by decide +kernel
theorem dX1_sight_11 : decode cX1_sight 11 = .ok (.istore 4, 2) := by decide +kernel
theorem dX1_sight_13 : decode cX1_sight 13 = .ok (.aload_n 0, 1) := by decide +kernel
theorem dX1_sight_14 : decode cX1_sight 14 = .ok (.iload_n 2, 1) := by decide +kernel
theorem dX1_sight_15 : decode cX1_sight 15 = .ok (.invokevirtual 80, 3) := by decide +kernel
theorem dX1_sight_18 : decode cX1_sight 18 = .ok (.iload_n 3, 1) := by decide +kernel
theorem dX1_sight_19 : decode cX1_sight 19 = .ok (.isub, 1) := by decide +kernel
theorem dX1_sight_20 : decode cX1_sight 20 = .ok (.istore 5, 2) := by decide +kernel
theorem dX1_sight_22 : decode cX1_sight 22 = .ok (.aload_n 0, 1) := by decide +kernel
theorem dX1_sight_23 : decode cX1_sight 23 = .ok (.iload_n 2, 1) := by decide +kernel
theorem dX1_sight_24 : decode cX1_sight 24 = .ok (.invokevirtual 84, 3) := by decide +kernel
theorem dX1_sight_27 : decode cX1_sight 27 = .ok (.iload 4, 2) := by decide +kernel
theorem dX1_sight_29 : decode cX1_sight 29 = .ok (.isub, 1) := by decide +kernel
theorem dX1_sight_30 : decode cX1_sight 30 = .ok (.istore 6, 2) := by decide +kernel
theorem dX1_sight_32 : decode cX1_sight 32 = .ok (.iconst 0, 1) := by decide +kernel
theorem dX1_sight_33 : decode cX1_sight 33 = .ok (.istore 7, 2) := by decide +kernel
theorem dX1_sight_35 : decode cX1_sight 35 = .ok (.iload 7, 2) := by decide +kernel
theorem dX1_sight_37 : decode cX1_sight 37 = .ok (.aload_n 0, 1) := by decide +kernel
theorem dX1_sight_38 : decode cX1_sight 38 = .ok (.getfield 18, 3) := by decide +kernel
theorem dX1_sight_41 : decode cX1_sight 41 = .ok (.if_icmp .ge 41, 3) := by decide +kernel
theorem dX1_sight_44 : decode cX1_sight 44 = .ok (.aload_n 0, 1) := by decide +kernel
theorem dX1_sight_45 : decode cX1_sight 45 = .ok (.getfield 34, 3) := by decide +kernel
theorem dX1_sight_48 : decode cX1_sight 48 = .ok (.iload 7, 2) := by decide +kernel
theorem dX1_sight_50 : decode cX1_sight 50 = .ok (.iaload, 1) := by decide +kernel
theorem dX1_sight_51 : decode cX1_sight 51 = .ok (.iload_n 3, 1) := by decide +kernel
theorem dX1_sight_52 : decode cX1_sight 52 = .ok (.isub, 1) := by decide +kernel
theorem dX1_sight_53 : decode cX1_sight 53 = .ok (.aload_n 0, 1) := by decide +kernel
theorem dX1_sight_54 : decode cX1_sight 54 = .ok (.getfield 38, 3) := by decide +kernel
theorem dX1_sight_57 : decode cX1_sight 57 = .ok (.iload 7, 2) := by decide +kernel
theorem dX1_sight_59 : decode cX1_sight 59 = .ok (.iaload, 1) := by decide +kernel
theorem dX1_sight_60 : decode cX1_sight 60 = .ok (.iload 4, 2) := by decide +kernel
theorem dX1_sight_62 : decode cX1_sight 62 = .ok (.isub, 1) := by decide +kernel
theorem dX1_sight_63 : decode cX1_sight 63 = .ok (.iload 5, 2) := by decide +kernel
theorem dX1_sight_65 : decode cX1_sight 65 = .ok (.iload 6, 2) := by decide +kernel
theorem dX1_sight_67 : decode cX1_sight 67 = .ok (.invokestatic 95, 3) := by decide +kernel
theorem dX1_sight_70 : decode cX1_sight 70 = .ok (.ifCond .eq 6, 3) := by decide +kernel
theorem dX1_sight_73 : decode cX1_sight 73 = .ok (.bipush 99, 2) := by decide +kernel
theorem dX1_sight_75 : decode cX1_sight 75 = .ok (.ireturn, 1) := by decide +kernel
theorem dX1_sight_76 : decode cX1_sight 76 = .ok (.iinc 7 1, 3) := by decide +kernel
theorem dX1_sight_79 : decode cX1_sight 79 = .ok (.goto (-44), 3) := by decide +kernel
theorem dX1_sight_82 : decode cX1_sight 82 = .ok (.iload 5, 2) := by decide +kernel
theorem dX1_sight_84 : decode cX1_sight 84 = .ok (.invokestatic 87, 3) := by decide +kernel
theorem dX1_sight_87 : decode cX1_sight 87 = .ok (.iload 6, 2) := by decide +kernel
theorem dX1_sight_89 : decode cX1_sight 89 = .ok (.invokestatic 87, 3) := by decide +kernel
theorem dX1_sight_92 : decode cX1_sight 92 = .ok (.invokestatic 92, 3) := by decide +kernel
theorem dX1_sight_95 : decode cX1_sight 95 = .ok (.ireturn, 1) := by decide +kernel
theorem dX1_isBetween_0 : decode cX1_isBetween 0 = .ok (.iload_n 0, 1) := by decide +kernel
theorem dX1_isBetween_1 : decode cX1_isBetween 1 = .ok (.iload_n 3, 1) := by decide +kernel
theorem dX1_isBetween_2 : decode cX1_isBetween 2 = .ok (.imul, 1) := by decide +kernel
theorem dX1_isBetween_3 : decode cX1_isBetween 3 = .ok (.iload_n 1, 1) := by decide +kernel
theorem dX1_isBetween_4 : decode cX1_isBetween 4 = .ok (.iload_n 2, 1) := by decide +kernel
theorem dX1_isBetween_5 : decode cX1_isBetween 5 = .ok (.imul, 1) := by decide +kernel
theorem dX1_isBetween_6 : decode cX1_isBetween 6 = .ok (.if_icmp .ne 41, 3) := by decide +kernel
theorem dX1_isBetween_9 : decode cX1_isBetween 9 = .ok (.iload_n 0, 1) := by decide +kernel
theorem dX1_isBetween_10 : decode cX1_isBetween 10 = .ok (.iload_n 2, 1) := by decide +kernel
theorem dX1_isBetween_11 : decode cX1_isBetween 11 = .ok (.invokestatic 99, 3) := by decide +kernel
theorem dX1_isBetween_14 : decode cX1_isBetween 14 = .ok (.ifCond .eq 33, 3) := by decide +kernel
theorem dX1_isBetween_17 : decode cX1_isBetween 17 = .ok (.iload_n 1, 1) := by decide +kernel
theorem dX1_isBetween_18 : decode cX1_isBetween 18 = .ok (.iload_n 3, 1) := by decide +kernel
theorem dX1_isBetween_19 : decode cX1_isBetween 19 = .ok (.invokestatic 99, 3) := by decide +kernel
theorem dX1_isBetween_22 : decode cX1_isBetween 22 = .ok (.ifCond .eq 25, 3) := by decide +kernel
theorem dX1_isBetween_25 : decode cX1_isBetween 25 = .ok (.iload_n 0, 1) := by decide +kernel
theorem dX1_isBetween_26 : decode cX1_isBetween 26 = .ok (.ifCond .ne 7, 3) := by decide +kernel
theorem dX1_isBetween_29 : decode cX1_isBetween 29 = .ok (.iload_n 1, 1) := by decide +kernel
theorem dX1_isBetween_30 : decode cX1_isBetween 30 = .ok (.ifCond .eq 17, 3) := by decide +kernel
theorem dX1_isBetween_33 : decode cX1_isBetween 33 = .ok (.iload_n 0, 1) := by decide +kernel
theorem dX1_isBetween_34 : decode cX1_isBetween 34 = .ok (.iload_n 2, 1) := by decide +kernel
theorem dX1_isBetween_35 : decode cX1_isBetween 35 = .ok (.if_icmp .ne 8, 3) := by decide +kernel
theorem dX1_isBetween_38 : decode cX1_isBetween 38 = .ok (.iload_n 1, 1) := by decide +kernel
theorem dX1_isBetween_39 : decode cX1_isBetween 39 = .ok (.iload_n 3, 1) := by decide +kernel
theorem dX1_isBetween_40 : decode cX1_isBetween 40 = .ok (.if_icmp .eq 7, 3) := by decide +kernel
theorem dX1_isBetween_43 : decode cX1_isBetween 43 = .ok (.iconst 1, 1) := by decide +kernel
theorem dX1_isBetween_44 : decode cX1_isBetween 44 = .ok (.goto 4, 3) := by decide +kernel
theorem dX1_isBetween_47 : decode cX1_isBetween 47 = .ok (.iconst 0, 1) := by decide +kernel
theorem dX1_isBetween_48 : decode cX1_isBetween 48 = .ok (.ireturn, 1) := by decide +kernel
theorem dX1_isWithin_0 : decode cX1_isWithin 0 = .ok (.iload_n 1, 1) := by decide +kernel
theorem dX1_isWithin_1 : decode cX1_isWithin 1 = .ok (.ifCond .lt 20, 3) := by decide +kernel
theorem dX1_isWithin_4 : decode cX1_isWithin 4 = .ok (.iload_n 0, 1) := by decide +kernel
theorem dX1_isWithin_5 : decode cX1_isWithin 5 = .ok (.ifCond .lt 12, 3) := by decide +kernel
theorem dX1_isWithin_8 : decode cX1_isWithin 8 = .ok (.iload_n 0, 1) := by decide +kernel
theorem dX1_isWithin_9 : decode cX1_isWithin 9 = .ok (.iload_n 1, 1) := by decide +kernel
theorem dX1_isWithin_10 : decode cX1_isWithin 10 = .ok (.if_icmp .gt 7, 3) := by decide +kernel
theorem dX1_isWithin_13 : decode cX1_isWithin 13 = .ok (.iconst 1, 1) := by decide +kernel
theorem dX1_isWithin_14 : decode cX1_isWithin 14 = .ok (.goto 21, 3) := by decide +kernel
theorem dX1_isWithin_17 : decode cX1_isWithin 17 = .ok (.iconst 0, 1) := by decide +kernel
theorem dX1_isWithin_18 : decode cX1_isWithin 18 = .ok (.goto 17, 3) := by decide +kernel
theorem dX1_isWithin_21 : decode cX1_isWithin 21 = .ok (.iload_n 0, 1) := by decide +kernel
theorem dX1_isWithin_22 : decode cX1_isWithin 22 = .ok (.ifCond .gt 12, 3) := by decide +kernel
theorem dX1_isWithin_25 : decode cX1_isWithin 25 = .ok (.iload_n 0, 1) := by decide +kernel
theorem dX1_isWithin_26 : decode cX1_isWithin 26 = .ok (.iload_n 1, 1) := by decide +kernel
theorem dX1_isWithin_27 : decode cX1_isWithin 27 = .ok (.if_icmp .lt 7, 3) := by decide +kernel
theorem dX1_isWithin_30 : decode cX1_isWithin 30 = .ok (.iconst 1, 1) := by decide +kernel
theorem dX1_isWithin_31 : decode cX1_isWithin 31 = .ok (.goto 4, 3) := by decide +kernel
theorem dX1_isWithin_34 : decode cX1_isWithin 34 = .ok (.iconst 0, 1) := by decide +kernel
theorem dX1_isWithin_35 : decode cX1_isWithin 35 = .ok (.ireturn, 1) := by decide +kernel
theorem dX1_fogIn_0 : decode cX1_fogIn 0 = .ok (.aload_n 0, 1) := by decide +kernel
theorem dX1_fogIn_1 : decode cX1_fogIn 1 = .ok (.getfield 27, 3) := by decide +kernel
theorem dX1_fogIn_4 : decode cX1_fogIn 4 = .ok (.ifCond .gt 7, 3) := by decide +kernel
theorem dX1_fogIn_7 : decode cX1_fogIn 7 = .ok (.iconst 0, 1) := by decide +kernel
theorem dX1_fogIn_8 : decode cX1_fogIn 8 = .ok (.goto 16, 3) := by decide +kernel
theorem dX1_fogIn_11 : decode cX1_fogIn 11 = .ok (.aload_n 0, 1) := by decide +kernel
theorem dX1_fogIn_12 : decode cX1_fogIn 12 = .ok (.getfield 59, 3) := by decide +kernel
theorem dX1_fogIn_15 : decode cX1_fogIn 15 = .ok (.iload_n 1, 1) := by decide +kernel
theorem dX1_fogIn_16 : decode cX1_fogIn 16 = .ok (.aload_n 0, 1) := by decide +kernel
theorem dX1_fogIn_17 : decode cX1_fogIn 17 = .ok (.getfield 27, 3) := by decide +kernel
theorem dX1_fogIn_20 : decode cX1_fogIn 20 = .ok (.invokestatic 76, 3) := by decide +kernel
theorem dX1_fogIn_23 : decode cX1_fogIn 23 = .ok (.iaload, 1) := by decide +kernel
theorem dX1_fogIn_24 : decode cX1_fogIn 24 = .ok (.ireturn, 1) := by decide +kernel
theorem dX1_mayFlash_0 : decode cX1_mayFlash 0 = .ok (.iconst 0, 1) := by decide +kernel
theorem dX1_mayFlash_1 : decode cX1_mayFlash 1 = .ok (.istore 4, 2) := by decide +kernel
theorem dX1_mayFlash_3 : decode cX1_mayFlash 3 = .ok (.iload 4, 2) := by decide +kernel
theorem dX1_mayFlash_5 : decode cX1_mayFlash 5 = .ok (.aload_n 0, 1) := by decide +kernel
theorem dX1_mayFlash_6 : decode cX1_mayFlash 6 = .ok (.getfield 53, 3) := by decide +kernel
theorem dX1_mayFlash_9 : decode cX1_mayFlash 9 = .ok (.iload_n 1, 1) := by decide +kernel
theorem dX1_mayFlash_10 : decode cX1_mayFlash 10 = .ok (.iaload, 1) := by decide +kernel
theorem dX1_mayFlash_11 : decode cX1_mayFlash 11 = .ok (.if_icmp .ge 23, 3) := by decide +kernel
theorem dX1_mayFlash_14 : decode cX1_mayFlash 14 = .ok (.aload_n 0, 1) := by decide +kernel
theorem dX1_mayFlash_15 : decode cX1_mayFlash 15 = .ok (.iload_n 1, 1) := by decide +kernel
theorem dX1_mayFlash_16 : decode cX1_mayFlash 16 = .ok (.iload 4, 2) := by decide +kernel
theorem dX1_mayFlash_18 : decode cX1_mayFlash 18 = .ok (.iload_n 2, 1) := by decide +kernel
theorem dX1_mayFlash_19 : decode cX1_mayFlash 19 = .ok (.iload_n 3, 1) := by decide +kernel
theorem dX1_mayFlash_20 : decode cX1_mayFlash 20 = .ok (.invokevirtual 103, 3) := by decide +kernel
theorem dX1_mayFlash_23 : decode cX1_mayFlash 23 = .ok (.ifCond .eq 5, 3) := by decide +kernel
theorem dX1_mayFlash_26 : decode cX1_mayFlash 26 = .ok (.iconst 1, 1) := by decide +kernel
theorem dX1_mayFlash_27 : decode cX1_mayFlash 27 = .ok (.ireturn, 1) := by decide +kernel
theorem dX1_mayFlash_28 : decode cX1_mayFlash 28 = .ok (.iinc 4 1, 3) := by decide +kernel
theorem dX1_mayFlash_31 : decode cX1_mayFlash 31 = .ok (.goto (-28), 3) := by decide +kernel
theorem dX1_mayFlash_34 : decode cX1_mayFlash 34 = .ok (.iconst 0, 1) := by decide +kernel
theorem dX1_mayFlash_35 : decode cX1_mayFlash 35 = .ok (.ireturn, 1) := by decide +kernel
theorem dX1_flashesFrom_0 : decode cX1_flashesFrom 0 = .ok (.iload_n 3, 1) := by decide +kernel
theorem dX1_flashesFrom_1 : decode cX1_flashesFrom 1 = .ok (.istore 5, 2) := by decide +kernel
theorem dX1_flashesFrom_3 : decode cX1_flashesFrom 3 = .ok (.iconst 0, 1) := by decide +kernel
theorem dX1_flashesFrom_4 : decode cX1_flashesFrom 4 = .ok (.istore 6, 2) := by decide +kernel
theorem dX1_flashesFrom_6 : decode cX1_flashesFrom 6 = .ok (.iload 6, 2) := by decide +kernel
theorem dX1_flashesFrom_8 : decode cX1_flashesFrom 8 = .ok (.iload 4, 2) := by decide +kernel
theorem dX1_flashesFrom_10 : decode cX1_flashesFrom 10 = .ok (.if_icmp .ge 60, 3) := by decide +kernel
theorem dX1_flashesFrom_13 : decode cX1_flashesFrom 13 = .ok (.iload 5, 2) := by decide +kernel
theorem dX1_flashesFrom_15 : decode cX1_flashesFrom 15 = .ok (.iconst 3, 1) := by decide +kernel
theorem dX1_flashesFrom_16 : decode cX1_flashesFrom 16 = .ok (.irem, 1) := by decide +kernel
theorem dX1_flashesFrom_17 : decode cX1_flashesFrom 17 = .ok (.istore 7, 2) := by decide +kernel
theorem dX1_flashesFrom_19 : decode cX1_flashesFrom 19 = .ok (.aload_n 0, 1) := by decide +kernel
theorem dX1_flashesFrom_20 : decode cX1_flashesFrom 20 = .ok (.getfield 56, 3) := by decide +kernel
theorem dX1_flashesFrom_23 : decode cX1_flashesFrom 23 = .ok (.iload_n 1, 1) := by decide +kernel
theorem dX1_flashesFrom_24 : decode cX1_flashesFrom 24 = .ok (.iaload, 1) := by decide +kernel
theorem dX1_flashesFrom_25 : decode cX1_flashesFrom 25 = .ok (.iload_n 2, 1) := by decide +kernel
theorem dX1_flashesFrom_26 : decode cX1_flashesFrom 26 = .ok (.iload 6, 2) := by decide +kernel
theorem dX1_flashesFrom_28 : decode cX1_flashesFrom 28 = .ok (.iadd, 1) := by decide +kernel
theorem dX1_flashesFrom_29 : decode cX1_flashesFrom 29 = .ok (.aload_n 0, 1) := by decide +kernel
theorem dX1_flashesFrom_30 : decode cX1_flashesFrom 30 = .ok (.getfield 53, 3) := by decide +kernel
theorem dX1_flashesFrom_33 : decode cX1_flashesFrom 33 = .ok (.iload_n 1, 1) := by decide +kernel
theorem dX1_flashesFrom_34 : decode cX1_flashesFrom 34 = .ok (.iaload, 1) := by decide +kernel
theorem dX1_flashesFrom_35 : decode cX1_flashesFrom 35 = .ok (.invokestatic 76, 3) := by decide +kernel
theorem dX1_flashesFrom_38 : decode cX1_flashesFrom 38 = .ok (.ishr, 1) := by decide +kernel
theorem dX1_flashesFrom_39 : decode cX1_flashesFrom 39 = .ok (.iconst 1, 1) := by decide +kernel
theorem dX1_flashesFrom_40 : decode cX1_flashesFrom 40 = .ok (.iand, 1) := by decide +kernel
theorem dX1_flashesFrom_41 : decode cX1_flashesFrom 41 = .ok (.istore 8, 2) := by decide +kernel
theorem dX1_flashesFrom_43 : decode cX1_flashesFrom 43 = .ok (.iload 7, 2) := by decide +kernel
theorem dX1_flashesFrom_45 : decode cX1_flashesFrom 45 = .ok (.iconst 2, 1) := by decide +kernel
theorem dX1_flashesFrom_46 : decode cX1_flashesFrom 46 = .ok (.if_icmp .eq 12, 3) := by decide +kernel
theorem dX1_flashesFrom_49 : decode cX1_flashesFrom 49 = .ok (.iload 7, 2) := by decide +kernel
theorem dX1_flashesFrom_51 : decode cX1_flashesFrom 51 = .ok (.iload 8, 2) := by decide +kernel
theorem dX1_flashesFrom_53 : decode cX1_flashesFrom 53 = .ok (.if_icmp .eq 5, 3) := by decide +kernel
theorem dX1_flashesFrom_56 : decode cX1_flashesFrom 56 = .ok (.iconst 0, 1) := by decide +kernel
theorem dX1_flashesFrom_57 : decode cX1_flashesFrom 57 = .ok (.ireturn, 1) := by decide +kernel
theorem dX1_flashesFrom_58 : decode cX1_flashesFrom 58 = .ok (.iload 5, 2) := by decide +kernel
theorem dX1_flashesFrom_60 : decode cX1_flashesFrom 60 = .ok (.iconst 3, 1) := by decide +kernel
theorem dX1_flashesFrom_61 : decode cX1_flashesFrom 61 = .ok (.idiv, 1) := by decide +kernel
theorem dX1_flashesFrom_62 : decode cX1_flashesFrom 62 = .ok (.istore 5, 2) := by decide +kernel
theorem dX1_flashesFrom_64 : decode cX1_flashesFrom 64 = .ok (.iinc 6 1, 3) := by decide +kernel
theorem dX1_flashesFrom_67 : decode cX1_flashesFrom 67 = .ok (.goto (-61), 3) := by decide +kernel
theorem dX1_flashesFrom_70 : decode cX1_flashesFrom 70 = .ok (.iconst 1, 1) := by decide +kernel
theorem dX1_flashesFrom_71 : decode cX1_flashesFrom 71 = .ok (.ireturn, 1) := by decide +kernel
theorem dX2_init_0 : decode cX2_init 0 = .ok (.aload_n 0, 1) := by decide +kernel
theorem dX2_init_1 : decode cX2_init 1 = .ok (.invokespecial 3, 3) := by decide +kernel
theorem dX2_init_4 : decode cX2_init 4 = .ok (.aload_n 0, 1) := by decide +kernel
theorem dX2_init_5 : decode cX2_init 5 = .ok (.iconst 5, 1) := by decide +kernel
theorem dX2_init_6 : decode cX2_init 6 = .ok (.newarray .int, 2) := by decide +kernel
theorem dX2_init_8 : decode cX2_init 8 = .ok (.putfield 9, 3) := by decide +kernel
theorem dX2_init_11 : decode cX2_init 11 = .ok (.aload_n 0, 1) := by decide +kernel
theorem dX2_init_12 : decode cX2_init 12 = .ok (.bipush 32, 2) := by decide +kernel
theorem dX2_init_14 : decode cX2_init 14 = .ok (.newarray .int, 2) := by decide +kernel
theorem dX2_init_16 : decode cX2_init 16 = .ok (.putfield 15, 3) := by decide +kernel
theorem dX2_init_19 : decode cX2_init 19 = .ok (.return_, 1) := by decide +kernel
theorem dX2_gather_0 : decode cX2_gather 0 = .ok (.iconst 0, 1) := by decide +kernel
theorem dX2_gather_1 : decode cX2_gather 1 = .ok (.istore 4, 2) := by decide +kernel
theorem dX2_gather_3 : decode cX2_gather 3 = .ok (.iload 4, 2) := by decide +kernel
theorem dX2_gather_5 : decode cX2_gather 5 = .ok (.aload_n 1, 1) := by decide +kernel
theorem dX2_gather_6 : decode cX2_gather 6 = .ok (.getfield 18, 3) := by decide +kernel
theorem dX2_gather_9 : decode cX2_gather 9 = .ok (.if_icmp .ge 17, 3) := by decide +kernel
theorem dX2_gather_12 : decode cX2_gather 12 = .ok (.aload_n 0, 1) := by decide +kernel
theorem dX2_gather_13 : decode cX2_gather 13 = .ok (.getfield 9, 3) := by decide +kernel
theorem dX2_gather_16 : decode cX2_gather 16 = .ok (.iload 4, 2) := by decide +kernel
theorem dX2_gather_18 : decode cX2_gather 18 = .ok (.iconst 0, 1) := by decide +kernel
theorem dX2_gather_19 : decode cX2_gather 19 = .ok (.iastore, 1) := by decide +kernel
theorem dX2_gather_20 : decode cX2_gather 20 = .ok (.iinc 4 1, 3) := by decide +kernel
theorem dX2_gather_23 : decode cX2_gather 23 = .ok (.goto (-20), 3) := by decide +kernel
theorem dX2_gather_26 : decode cX2_gather 26 = .ok (.iconst 0, 1) := by decide +kernel
theorem dX2_gather_27 : decode cX2_gather 27 = .ok (.istore 4, 2) := by decide +kernel
theorem dX2_gather_29 : decode cX2_gather 29 = .ok (.iload 4, 2) := by decide +kernel
theorem dX2_gather_31 : decode cX2_gather 31 = .ok (.aload_n 1, 1) := by decide +kernel
theorem dX2_gather_32 : decode cX2_gather 32 = .ok (.getfield 24, 3) := by decide +kernel
theorem dX2_gather_35 : decode cX2_gather 35 = .ok (.if_icmp .ge 52, 3) := by decide +kernel
theorem dX2_gather_38 : decode cX2_gather 38 = .ok (.iload_n 3, 1) := by decide +kernel
theorem dX2_gather_39 : decode cX2_gather 39 = .ok (.bipush 24, 2) := by decide +kernel
theorem dX2_gather_41 : decode cX2_gather 41 = .ok (.imul, 1) := by decide +kernel
theorem dX2_gather_42 : decode cX2_gather 42 = .ok (.bipush 12, 2) := by decide +kernel
theorem dX2_gather_44 : decode cX2_gather 44 = .ok (.iadd, 1) := by decide +kernel
theorem dX2_gather_45 : decode cX2_gather 45 = .ok (.istore 5, 2) := by decide +kernel
theorem dX2_gather_47 : decode cX2_gather 47 = .ok (.iload 5, 2) := by decide +kernel
theorem dX2_gather_49 : decode cX2_gather 49 = .ok (.iload_n 3, 1) := by decide +kernel
theorem dX2_gather_50 : decode cX2_gather 50 = .ok (.bipush 24, 2) := by decide +kernel
theorem dX2_gather_52 : decode cX2_gather 52 = .ok (.imul, 1) := by decide +kernel
theorem dX2_gather_53 : decode cX2_gather 53 = .ok (.bipush 24, 2) := by decide +kernel
theorem dX2_gather_55 : decode cX2_gather 55 = .ok (.iadd, 1) := by decide +kernel
theorem dX2_gather_56 : decode cX2_gather 56 = .ok (.if_icmp .ge 25, 3) := by decide +kernel
theorem dX2_gather_59 : decode cX2_gather 59 = .ok (.aload_n 0, 1) := by decide +kernel
theorem dX2_gather_60 : decode cX2_gather 60 = .ok (.aload_n 2, 1) := by decide +kernel
theorem dX2_gather_61 : decode cX2_gather 61 = .ok (.iload 4, 2) := by decide +kernel
theorem dX2_gather_63 : decode cX2_gather 63 = .ok (.iload 5, 2) := by decide +kernel
theorem dX2_gather_65 : decode cX2_gather 65 = .ok (.invokevirtual 27, 3) := by decide +kernel
theorem dX2_gather_68 : decode cX2_gather 68 = .ok (.aload_n 1, 1) := by decide +kernel
theorem dX2_gather_69 : decode cX2_gather 69 = .ok (.getfield 18, 3) := by decide +kernel
theorem dX2_gather_72 : decode cX2_gather 72 = .ok (.invokevirtual 33, 3) := by decide +kernel
theorem dX2_gather_75 : decode cX2_gather 75 = .ok (.iinc 5 1, 3) := by decide +kernel
theorem dX2_gather_78 : decode cX2_gather 78 = .ok (.goto (-31), 3) := by decide +kernel
theorem dX2_gather_81 : decode cX2_gather 81 = .ok (.iinc 4 1, 3) := by decide +kernel
theorem dX2_gather_84 : decode cX2_gather 84 = .ok (.goto (-55), 3) := by decide +kernel
theorem dX2_gather_87 : decode cX2_gather 87 = .ok (.return_, 1) := by decide +kernel
theorem dX2_gatherFrom_0 : decode cX2_gatherFrom 0 = .ok (.iconst 0, 1) := by decide +kernel
theorem dX2_gatherFrom_1 : decode cX2_gatherFrom 1 = .ok (.istore_n 3, 1) := by decide +kernel
theorem dX2_gatherFrom_2 : decode cX2_gatherFrom 2 = .ok (.iload_n 3, 1) := by decide +kernel
theorem dX2_gatherFrom_3 : decode cX2_gatherFrom 3 = .ok (.iload_n 2, 1) := by decide +kernel
theorem dX2_gatherFrom_4 : decode cX2_gatherFrom 4 = .ok (.if_icmp .ge 34, 3) := by decide +kernel
theorem dX2_gatherFrom_7 : decode cX2_gatherFrom 7 = .ok (.iload_n 1, 1) := by decide +kernel
theorem dX2_gatherFrom_8 : decode cX2_gatherFrom 8 = .ok (.iload_n 3, 1) := by decide +kernel
theorem dX2_gatherFrom_9 : decode cX2_gatherFrom 9 = .ok (.ishr, 1) := by decide +kernel
theorem dX2_gatherFrom_10 : decode cX2_gatherFrom 10 = .ok (.iconst 1, 1) := by decide +kernel
theorem dX2_gatherFrom_11 : decode cX2_gatherFrom 11 = .ok (.iand, 1) := by decide +kernel
theorem dX2_gatherFrom_12 : decode cX2_gatherFrom 12 = .ok (.iconst 1, 1) := by decide +kernel
theorem dX2_gatherFrom_13 : decode cX2_gatherFrom 13 = .ok (.if_icmp .ne 19, 3) := by decide +kernel
theorem dX2_gatherFrom_16 : decode cX2_gatherFrom 16 = .ok (.aload_n 0, 1) := by decide +kernel
theorem dX2_gatherFrom_17 : decode cX2_gatherFrom 17 = .ok (.getfield 9, 3) := by decide +kernel
theorem dX2_gatherFrom_20 : decode cX2_gatherFrom 20 = .ok (.iload_n 3, 1) := by decide +kernel
theorem dX2_gatherFrom_21 : decode cX2_gatherFrom 21 = .ok (.dup2, 1) := by decide +kernel
theorem dX2_gatherFrom_22 : decode cX2_gatherFrom 22 = .ok (.iaload, 1) := by decide +kernel
theorem dX2_gatherFrom_23 : decode cX2_gatherFrom 23 = .ok (.iload_n 1, 1) := by decide +kernel
theorem dX2_gatherFrom_24 : decode cX2_gatherFrom 24 = .ok (.iconst 1, 1) := by decide +kernel
theorem dX2_gatherFrom_25 : decode cX2_gatherFrom 25 = .ok (.iload_n 3, 1) := by decide +kernel
theorem dX2_gatherFrom_26 : decode cX2_gatherFrom 26 = .ok (.ishl, 1) := by decide +kernel
theorem dX2_gatherFrom_27 : decode cX2_gatherFrom 27 = .ok (.iconst (-1), 1) := by decide +kernel
theorem dX2_gatherFrom_28 : decode cX2_gatherFrom 28 = .ok (.ixor, 1) := by decide +kernel
theorem dX2_gatherFrom_29 : decode cX2_gatherFrom 29 = .ok (.iand, 1) := by decide +kernel
theorem dX2_gatherFrom_30 : decode cX2_gatherFrom 30 = .ok (.ior, 1) := by decide +kernel
theorem dX2_gatherFrom_31 : decode cX2_gatherFrom 31 = .ok (.iastore, 1) := by decide +kernel
theorem dX2_gatherFrom_32 : decode cX2_gatherFrom 32 = .ok (.iinc 3 1, 3) := by decide +kernel
theorem dX2_gatherFrom_35 : decode cX2_gatherFrom 35 = .ok (.goto (-33), 3) := by decide +kernel
theorem dX2_gatherFrom_38 : decode cX2_gatherFrom 38 = .ok (.return_, 1) := by decide +kernel
theorem dX2_fewestSigns_0 : decode cX2_fewestSigns 0 = .ok (.iconst 1, 1) := by decide +kernel
theorem dX2_fewestSigns_1 : decode cX2_fewestSigns 1 = .ok (.iload_n 1, 1) := by decide +kernel
theorem dX2_fewestSigns_2 : decode cX2_fewestSigns 2 = .ok (.ishl, 1) := by decide +kernel
theorem dX2_fewestSigns_3 : decode cX2_fewestSigns 3 = .ok (.iconst 1, 1) := by decide +kernel
theorem dX2_fewestSigns_4 : decode cX2_fewestSigns 4 = .ok (.isub, 1) := by decide +kernel
theorem dX2_fewestSigns_5 : decode cX2_fewestSigns 5 = .ok (.istore_n 2, 1) := by decide +kernel
theorem dX2_fewestSigns_6 : decode cX2_fewestSigns 6 = .ok (.aload_n 0, 1) := by decide +kernel
theorem dX2_fewestSigns_7 : decode cX2_fewestSigns 7 = .ok (.getfield 15, 3) := by decide +kernel
theorem dX2_fewestSigns_10 : decode cX2_fewestSigns 10 = .ok (.iconst 0, 1) := by decide +kernel
theorem dX2_fewestSigns_11 : decode cX2_fewestSigns 11 = .ok (.iconst 0, 1) := by decide +kernel
theorem dX2_fewestSigns_12 : decode cX2_fewestSigns 12 = .ok (.iastore, 1) := by decide +kernel
theorem dX2_fewestSigns_13 : decode cX2_fewestSigns 13 = .ok (.iconst 1, 1) := by decide +kernel
theorem dX2_fewestSigns_14 : decode cX2_fewestSigns 14 = .ok (.istore_n 3, 1) := by decide +kernel
theorem dX2_fewestSigns_15 : decode cX2_fewestSigns 15 = .ok (.iload_n 3, 1) := by decide +kernel
theorem dX2_fewestSigns_16 : decode cX2_fewestSigns 16 = .ok (.iload_n 2, 1) := by decide +kernel
theorem dX2_fewestSigns_17 : decode cX2_fewestSigns 17 = .ok (.if_icmp .gt 78, 3) := by decide +kernel
theorem dX2_fewestSigns_20 : decode cX2_fewestSigns 20 = .ok (.aload_n 0, 1) := by decide +kernel
theorem dX2_fewestSigns_21 : decode cX2_fewestSigns 21 = .ok (.getfield 15, 3) := by decide +kernel
theorem dX2_fewestSigns_24 : decode cX2_fewestSigns 24 = .ok (.iload_n 3, 1) := by decide +kernel
theorem dX2_fewestSigns_25 : decode cX2_fewestSigns 25 = .ok (.iconst 5, 1) := by decide +kernel
theorem dX2_fewestSigns_26 : decode cX2_fewestSigns 26 = .ok (.iastore, 1) := by decide +kernel
theorem dX2_fewestSigns_27 : decode cX2_fewestSigns 27 = .ok (.iconst 1, 1) := by decide +kernel
theorem dX2_fewestSigns_28 : decode cX2_fewestSigns 28 = .ok (.istore 4, 2) := by decide +kernel
theorem dX2_fewestSigns_30 : decode cX2_fewestSigns 30 = .ok (.iload 4, 2) := by decide +kernel
theorem dX2_fewestSigns_32 : decode cX2_fewestSigns 32 = .ok (.iload_n 3, 1) := by decide +kernel
theorem dX2_fewestSigns_33 : decode cX2_fewestSigns 33 = .ok (.if_icmp .gt 56, 3) := by decide +kernel
theorem dX2_fewestSigns_36 : decode cX2_fewestSigns 36 = .ok (.iload 4, 2) := by decide +kernel
theorem dX2_fewestSigns_38 : decode cX2_fewestSigns 38 = .ok (.iload_n 3, 1) := by decide +kernel
theorem dX2_fewestSigns_39 : decode cX2_fewestSigns 39 = .ok (.iand, 1) := by decide +kernel
theorem dX2_fewestSigns_40 : decode cX2_fewestSigns 40 = .ok (.iload 4, 2) := by decide +kernel
theorem dX2_fewestSigns_42 : decode cX2_fewestSigns 42 = .ok (.if_icmp .ne 41, 3) := by decide +kernel
theorem dX2_fewestSigns_45 : decode cX2_fewestSigns 45 = .ok (.aload_n 0, 1) := by decide +kernel
theorem dX2_fewestSigns_46 : decode cX2_fewestSigns 46 = .ok (.iload 4, 2) := by decide +kernel
theorem dX2_fewestSigns_48 : decode cX2_fewestSigns 48 = .ok (.iload_n 1, 1) := by decide +kernel
theorem dX2_fewestSigns_49 : decode cX2_fewestSigns 49 = .ok (.invokevirtual 37, 3) := by decide +kernel
theorem dX2_fewestSigns_52 : decode cX2_fewestSigns 52 = .ok (.ifCond .eq 31, 3) := by decide +kernel
theorem dX2_fewestSigns_55 : decode cX2_fewestSigns 55 = .ok (.aload_n 0, 1) := by decide +kernel
theorem dX2_fewestSigns_56 : decode cX2_fewestSigns 56 = .ok (.getfield 15, 3) := by decide +kernel
theorem dX2_fewestSigns_59 : decode cX2_fewestSigns 59 = .ok (.iload_n 3, 1) := by decide +kernel
theorem dX2_fewestSigns_60 : decode cX2_fewestSigns 60 = .ok (.aload_n 0, 1) := by decide +kernel
theorem dX2_fewestSigns_61 : decode cX2_fewestSigns 61 = .ok (.getfield 15, 3) := by decide +kernel
theorem dX2_fewestSigns_64 : decode cX2_fewestSigns 64 = .ok (.iload_n 3, 1) := by decide +kernel
theorem dX2_fewestSigns_65 : decode cX2_fewestSigns 65 = .ok (.iaload, 1) := by decide +kernel
theorem dX2_fewestSigns_66 : decode cX2_fewestSigns 66 = .ok (.iconst 1, 1) := by decide +kernel
theorem dX2_fewestSigns_67 : decode cX2_fewestSigns 67 = .ok (.aload_n 0, 1) := by decide +kernel
theorem dX2_fewestSigns_68 : decode cX2_fewestSigns 68 = .ok (.getfield 15, 3) := by decide +kernel
theorem dX2_fewestSigns_71 : decode cX2_fewestSigns 71 = .ok (.iload_n 3, 1) := by decide +kernel
theorem dX2_fewestSigns_72 : decode cX2_fewestSigns 72 = .ok (.iload 4, 2) := by decide +kernel
theorem dX2_fewestSigns_74 : decode cX2_fewestSigns 74 = .ok (.iconst (-1), 1) := by decide +kernel
theorem dX2_fewestSigns_75 : decode cX2_fewestSigns 75 = .ok (.ixor, 1) := by decide +kernel
theorem dX2_fewestSigns_76 : decode cX2_fewestSigns 76 = .ok (.iand, 1) := by decide +kernel
theorem dX2_fewestSigns_77 : decode cX2_fewestSigns 77 = .ok (.iaload, 1) := by decide +kernel
theorem dX2_fewestSigns_78 : decode cX2_fewestSigns 78 = .ok (.iadd, 1) := by decide +kernel
theorem dX2_fewestSigns_79 : decode cX2_fewestSigns 79 = .ok (.invokestatic 41, 3) := by decide +kernel
theorem dX2_fewestSigns_82 : decode cX2_fewestSigns 82 = .ok (.iastore, 1) := by decide +kernel
theorem dX2_fewestSigns_83 : decode cX2_fewestSigns 83 = .ok (.iinc 4 1, 3) := by decide +kernel
theorem dX2_fewestSigns_86 : decode cX2_fewestSigns 86 = .ok (.goto (-56), 3) := by decide +kernel
theorem dX2_fewestSigns_89 : decode cX2_fewestSigns 89 = .ok (.iinc 3 1, 3) := by decide +kernel
theorem dX2_fewestSigns_92 : decode cX2_fewestSigns 92 = .ok (.goto (-77), 3) := by decide +kernel
theorem dX2_fewestSigns_95 : decode cX2_fewestSigns 95 = .ok (.aload_n 0, 1) := by decide +kernel
theorem dX2_fewestSigns_96 : decode cX2_fewestSigns 96 = .ok (.getfield 15, 3) := by decide +kernel
theorem dX2_fewestSigns_99 : decode cX2_fewestSigns 99 = .ok (.iload_n 2, 1) := by decide +kernel
theorem dX2_fewestSigns_100 : decode cX2_fewestSigns 100 = .ok (.iaload, 1) := by decide +kernel
theorem dX2_fewestSigns_101 : decode cX2_fewestSigns 101 = .ok (.ireturn, 1) := by decide +kernel
theorem dX2_isPeaceful_0 : decode cX2_isPeaceful 0 = .ok (.iconst 0, 1) := by decide +kernel
theorem dX2_isPeaceful_1 : decode cX2_isPeaceful 1 = .ok (.istore_n 3, 1) := by decide +kernel
theorem dX2_isPeaceful_2 : decode cX2_isPeaceful 2 = .ok (.iload_n 3, 1) := by decide +kernel
theorem dX2_isPeaceful_3 : decode cX2_isPeaceful 3 = .ok (.iload_n 2, 1) := by decide +kernel
theorem dX2_isPeaceful_4 : decode cX2_isPeaceful 4 = .ok (.if_icmp .ge 31, 3) := by decide +kernel
theorem dX2_isPeaceful_7 : decode cX2_isPeaceful 7 = .ok (.iload_n 1, 1) := by decide +kernel
theorem dX2_isPeaceful_8 : decode cX2_isPeaceful 8 = .ok (.iload_n 3, 1) := by decide +kernel
theorem dX2_isPeaceful_9 : decode cX2_isPeaceful 9 = .ok (.ishr, 1) := by decide +kernel
theorem dX2_isPeaceful_10 : decode cX2_isPeaceful 10 = .ok (.iconst 1, 1) := by decide +kernel
theorem dX2_isPeaceful_11 : decode cX2_isPeaceful 11 = .ok (.iand, 1) := by decide +kernel
theorem dX2_isPeaceful_12 : decode cX2_isPeaceful 12 = .ok (.iconst 1, 1) := by decide +kernel
theorem dX2_isPeaceful_13 : decode cX2_isPeaceful 13 = .ok (.if_icmp .ne 16, 3) := by decide +kernel
theorem dX2_isPeaceful_16 : decode cX2_isPeaceful 16 = .ok (.aload_n 0, 1) := by decide +kernel
theorem dX2_isPeaceful_17 : decode cX2_isPeaceful 17 = .ok (.getfield 9, 3) := by decide +kernel
theorem dX2_isPeaceful_20 : decode cX2_isPeaceful 20 = .ok (.iload_n 3, 1) := by decide +kernel
theorem dX2_isPeaceful_21 : decode cX2_isPeaceful 21 = .ok (.iaload, 1) := by decide +kernel
theorem dX2_isPeaceful_22 : decode cX2_isPeaceful 22 = .ok (.iload_n 1, 1) := by decide +kernel
theorem dX2_isPeaceful_23 : decode cX2_isPeaceful 23 = .ok (.iand, 1) := by decide +kernel
theorem dX2_isPeaceful_24 : decode cX2_isPeaceful 24 = .ok (.ifCond .eq 5, 3) := by decide +kernel
theorem dX2_isPeaceful_27 : decode cX2_isPeaceful 27 = .ok (.iconst 0, 1) := by decide +kernel
theorem dX2_isPeaceful_28 : decode cX2_isPeaceful 28 = .ok (.ireturn, 1) := by decide +kernel
theorem dX2_isPeaceful_29 : decode cX2_isPeaceful 29 = .ok (.iinc 3 1, 3) := by decide +kernel
theorem dX2_isPeaceful_32 : decode cX2_isPeaceful 32 = .ok (.goto (-30), 3) := by decide +kernel
theorem dX2_isPeaceful_35 : decode cX2_isPeaceful 35 = .ok (.iconst 1, 1) := by decide +kernel
theorem dX2_isPeaceful_36 : decode cX2_isPeaceful 36 = .ok (.ireturn, 1) := by decide +kernel
theorem dX2_takenCouples_0 : decode cX2_takenCouples 0 = .ok (.iconst 0, 1) := by decide +kernel
theorem dX2_takenCouples_1 : decode cX2_takenCouples 1 = .ok (.istore_n 2, 1) := by decide +kernel
theorem dX2_takenCouples_2 : decode cX2_takenCouples 2 = .ok (.iconst 0, 1) := by decide +kernel
theorem dX2_takenCouples_3 : decode cX2_takenCouples 3 = .ok (.istore_n 3, 1) := by decide +kernel
theorem dX2_takenCouples_4 : decode cX2_takenCouples 4 = .ok (.iload_n 3, 1) := by decide +kernel
theorem dX2_takenCouples_5 : decode cX2_takenCouples 5 = .ok (.aload_n 1, 1) := by decide +kernel
theorem dX2_takenCouples_6 : decode cX2_takenCouples 6 = .ok (.getfield 18, 3) := by decide +kernel
theorem dX2_takenCouples_9 : decode cX2_takenCouples 9 = .ok (.if_icmp .ge 79, 3) := by decide +kernel
theorem dX2_takenCouples_12 : decode cX2_takenCouples 12 = .ok (.iload_n 3, 1) := by decide +kernel
theorem dX2_takenCouples_13 : decode cX2_takenCouples 13 = .ok (.iconst 1, 1) := by decide +kernel
theorem dX2_takenCouples_14 : decode cX2_takenCouples 14 = .ok (.iadd, 1) := by decide +kernel
theorem dX2_takenCouples_15 : decode cX2_takenCouples 15 = .ok (.istore 4, 2) := by decide +kernel
theorem dX2_takenCouples_17 : decode cX2_takenCouples 17 = .ok (.iload 4, 2) := by decide +kernel
theorem dX2_takenCouples_19 : decode cX2_takenCouples 19 = .ok (.aload_n 1, 1) := by decide +kernel
theorem dX2_takenCouples_20 : decode cX2_takenCouples 20 = .ok (.getfield 18, 3) := by decide +kernel
theorem dX2_takenCouples_23 : decode cX2_takenCouples 23 = .ok (.if_icmp .ge 59, 3) := by decide +kernel
theorem dX2_takenCouples_26 : decode cX2_takenCouples 26 = .ok (.aload_n 0, 1) := by decide +kernel
theorem dX2_takenCouples_27 : decode cX2_takenCouples 27 = .ok (.getfield 9, 3) := by decide +kernel
theorem dX2_takenCouples_30 : decode cX2_takenCouples 30 = .ok (.iload_n 3, 1) := by decide +kernel
theorem dX2_takenCouples_31 : decode cX2_takenCouples 31 = .ok (.iaload, 1) := by decide +kernel
theorem dX2_takenCouples_32 : decode cX2_takenCouples 32 = .ok (.iload 4, 2) := by decide +kernel
theorem dX2_takenCouples_34 : decode cX2_takenCouples 34 = .ok (.ishr, 1) := by decide +kernel
theorem dX2_takenCouples_35 : decode cX2_takenCouples 35 = .ok (.iconst 1, 1) := by decide +kernel
theorem dX2_takenCouples_36 : decode cX2_takenCouples 36 = .ok (.iand, 1) := by decide +kernel
theorem dX2_takenCouples_37 : decode cX2_takenCouples 37 = .ok (.iconst 1, 1) := by decide +kernel
theorem dX2_takenCouples_38 : decode cX2_takenCouples 38 = .ok (.if_icmp .ne 38, 3) := by decide +kernel
theorem dX2_takenCouples_41 : decode cX2_takenCouples 41 = .ok (.aload_n 1, 1) := by decide +kernel
theorem dX2_takenCouples_42 : decode cX2_takenCouples 42 = .ok (.getfield 46, 3) := by decide +kernel
theorem dX2_takenCouples_45 : decode cX2_takenCouples 45 = .ok (.iload_n 3, 1) := by decide +kernel
theorem dX2_takenCouples_46 : decode cX2_takenCouples 46 = .ok (.iaload, 1) := by decide +kernel
theorem dX2_takenCouples_47 : decode cX2_takenCouples 47 = .ok (.aload_n 1, 1) := by decide +kernel
theorem dX2_takenCouples_48 : decode cX2_takenCouples 48 = .ok (.getfield 46, 3) := by decide +kernel
theorem dX2_takenCouples_51 : decode cX2_takenCouples 51 = .ok (.iload 4, 2) := by decide +kernel
theorem dX2_takenCouples_53 : decode cX2_takenCouples 53 = .ok (.iaload, 1) := by decide +kernel
theorem dX2_takenCouples_54 : decode cX2_takenCouples 54 = .ok (.if_icmp .ne 22, 3) := by decide +kernel
theorem dX2_takenCouples_57 : decode cX2_takenCouples 57 = .ok (.aload_n 1, 1) := by decide +kernel
theorem dX2_takenCouples_58 : decode cX2_takenCouples 58 = .ok (.getfield 49, 3) := by decide +kernel
theorem dX2_takenCouples_61 : decode cX2_takenCouples 61 = .ok (.iload_n 3, 1) := by decide +kernel
theorem dX2_takenCouples_62 : decode cX2_takenCouples 62 = .ok (.iaload, 1) := by decide +kernel
theorem dX2_takenCouples_63 : decode cX2_takenCouples 63 = .ok (.aload_n 1, 1) := by decide +kernel
theorem dX2_takenCouples_64 : decode cX2_takenCouples 64 = .ok (.getfield 49, 3) := by decide +kernel
theorem dX2_takenCouples_67 : decode cX2_takenCouples 67 = .ok (.iload 4, 2) := by decide +kernel
theorem dX2_takenCouples_69 : decode cX2_takenCouples 69 = .ok (.iaload, 1) := by decide +kernel
theorem dX2_takenCouples_70 : decode cX2_takenCouples 70 = .ok (.if_icmp .ne 6, 3) := by decide +kernel
theorem dX2_takenCouples_73 : decode cX2_takenCouples 73 = .ok (.iinc 2 1, 3) := by decide +kernel
theorem dX2_takenCouples_76 : decode cX2_takenCouples 76 = .ok (.iinc 4 1, 3) := by decide +kernel
theorem dX2_takenCouples_79 : decode cX2_takenCouples 79 = .ok (.goto (-62), 3) := by decide +kernel
theorem dX2_takenCouples_82 : decode cX2_takenCouples 82 = .ok (.iinc 3 1, 3) := by decide +kernel
theorem dX2_takenCouples_85 : decode cX2_takenCouples 85 = .ok (.goto (-81), 3) := by decide +kernel
theorem dX2_takenCouples_88 : decode cX2_takenCouples 88 = .ok (.iload_n 2, 1) := by decide +kernel
theorem dX2_takenCouples_89 : decode cX2_takenCouples 89 = .ok (.ireturn, 1) := by decide +kernel
theorem dX3_init_0 : decode cX3_init 0 = .ok (.aload_n 0, 1) := by decide +kernel
theorem dX3_init_1 : decode cX3_init 1 = .ok (.invokespecial 3, 3) := by decide +kernel
theorem dX3_init_4 : decode cX3_init 4 = .ok (.aload_n 0, 1) := by decide +kernel
theorem dX3_init_5 : decode cX3_init 5 = .ok (.sipush 1200, 3) := by decide +kernel
theorem dX3_init_8 : decode cX3_init 8 = .ok (.newarray .int, 2) := by decide +kernel
theorem dX3_init_10 : decode cX3_init 10 = .ok (.putfield 9, 3) := by decide +kernel
theorem dX3_init_13 : decode cX3_init 13 = .ok (.aload_n 0, 1) := by decide +kernel
theorem dX3_init_14 : decode cX3_init 14 = .ok (.sipush 1920, 3) := by decide +kernel
theorem dX3_init_17 : decode cX3_init 17 = .ok (.newarray .int, 2) := by decide +kernel
theorem dX3_init_19 : decode cX3_init 19 = .ok (.putfield 15, 3) := by decide +kernel
theorem dX3_init_22 : decode cX3_init 22 = .ok (.aload_n 0, 1) := by decide +kernel
theorem dX3_init_23 : decode cX3_init 23 = .ok (.iconst 0, 1) := by decide +kernel
theorem dX3_init_24 : decode cX3_init 24 = .ok (.putfield 18, 3) := by decide +kernel
theorem dX3_init_27 : decode cX3_init 27 = .ok (.return_, 1) := by decide +kernel
theorem dX3_cellOf_0 : decode cX3_cellOf 0 = .ok (.aload_n 0, 1) := by decide +kernel
theorem dX3_cellOf_1 : decode cX3_cellOf 1 = .ok (.getfield 9, 3) := by decide +kernel
theorem dX3_cellOf_4 : decode cX3_cellOf 4 = .ok (.iload_n 1, 1) := by decide +kernel
theorem dX3_cellOf_5 : decode cX3_cellOf 5 = .ok (.sipush 240, 3) := by decide +kernel
theorem dX3_cellOf_8 : decode cX3_cellOf 8 = .ok (.imul, 1) := by decide +kernel
theorem dX3_cellOf_9 : decode cX3_cellOf 9 = .ok (.iload_n 2, 1) := by decide +kernel
theorem dX3_cellOf_10 : decode cX3_cellOf 10 = .ok (.iadd, 1) := by decide +kernel
theorem dX3_cellOf_11 : decode cX3_cellOf 11 = .ok (.iaload, 1) := by decide +kernel
theorem dX3_cellOf_12 : decode cX3_cellOf 12 = .ok (.ireturn, 1) := by decide +kernel
theorem dX3_sightsOf_0 : decode cX3_sightsOf 0 = .ok (.aload_n 0, 1) := by decide +kernel
theorem dX3_sightsOf_1 : decode cX3_sightsOf 1 = .ok (.getfield 15, 3) := by decide +kernel
theorem dX3_sightsOf_4 : decode cX3_sightsOf 4 = .ok (.iload_n 1, 1) := by decide +kernel
theorem dX3_sightsOf_5 : decode cX3_sightsOf 5 = .ok (.sipush 240, 3) := by decide +kernel
theorem dX3_sightsOf_8 : decode cX3_sightsOf 8 = .ok (.imul, 1) := by decide +kernel
theorem dX3_sightsOf_9 : decode cX3_sightsOf 9 = .ok (.iload_n 2, 1) := by decide +kernel
theorem dX3_sightsOf_10 : decode cX3_sightsOf 10 = .ok (.iadd, 1) := by decide +kernel
theorem dX3_sightsOf_11 : decode cX3_sightsOf 11 = .ok (.iaload, 1) := by decide +kernel
theorem dX3_sightsOf_12 : decode cX3_sightsOf 12 = .ok (.ireturn, 1) := by decide +kernel
theorem dX3_sail_0 : decode cX3_sail 0 = .ok (.aload_n 0, 1) := by decide +kernel
theorem dX3_sail_1 : decode cX3_sail 1 = .ok (.iconst 0, 1) := by decide +kernel
theorem dX3_sail_2 : decode cX3_sail 2 = .ok (.putfield 18, 3) := by decide +kernel
theorem dX3_sail_5 : decode cX3_sail 5 = .ok (.iconst 0, 1) := by decide +kernel
theorem dX3_sail_6 : decode cX3_sail 6 = .ok (.istore 5, 2) := by decide +kernel
theorem dX3_sail_8 : decode cX3_sail 8 = .ok (.iload 5, 2) := by decide +kernel
theorem dX3_sail_10 : decode cX3_sail 10 = .ok (.aload_n 1, 1) := by decide +kernel
theorem dX3_sail_11 : decode cX3_sail 11 = .ok (.getfield 22, 3) := by decide +kernel
theorem dX3_sail_14 : decode cX3_sail 14 = .ok (.if_icmp .ge 27, 3) := by decide +kernel
theorem dX3_sail_17 : decode cX3_sail 17 = .ok (.aload_n 0, 1) := by decide +kernel
theorem dX3_sail_18 : decode cX3_sail 18 = .ok (.getfield 9, 3) := by decide +kernel
theorem dX3_sail_21 : decode cX3_sail 21 = .ok (.iload 5, 2) := by decide +kernel
theorem dX3_sail_23 : decode cX3_sail 23 = .ok (.sipush 240, 3) := by decide +kernel
theorem dX3_sail_26 : decode cX3_sail 26 = .ok (.imul, 1) := by decide +kernel
theorem dX3_sail_27 : decode cX3_sail 27 = .ok (.aload_n 2, 1) := by decide +kernel
theorem dX3_sail_28 : decode cX3_sail 28 = .ok (.getfield 27, 3) := by decide +kernel
theorem dX3_sail_31 : decode cX3_sail 31 = .ok (.iload 5, 2) := by decide +kernel
theorem dX3_sail_33 : decode cX3_sail 33 = .ok (.iaload, 1) := by decide +kernel
theorem dX3_sail_34 : decode cX3_sail 34 = .ok (.iastore, 1) := by decide +kernel
theorem dX3_sail_35 : decode cX3_sail 35 = .ok (.iinc 5 1, 3) := by decide +kernel
theorem dX3_sail_38 : decode cX3_sail 38 = .ok (.goto (-30), 3) := by decide +kernel
theorem dX3_sail_41 : decode cX3_sail 41 = .ok (.iconst 1, 1) := by decide +kernel
theorem dX3_sail_42 : decode cX3_sail 42 = .ok (.istore 5, 2) := by decide +kernel
theorem dX3_sail_44 : decode cX3_sail 44 = .ok (.iload 5, 2) := by decide +kernel
theorem dX3_sail_46 : decode cX3_sail 46 = .ok (.iload 4, 2) := by decide +kernel
theorem dX3_sail_48 : decode cX3_sail 48 = .ok (.if_icmp .ge 96, 3) := by decide +kernel
theorem dX3_sail_51 : decode cX3_sail 51 = .ok (.iconst 0, 1) := by decide +kernel
theorem dX3_sail_52 : decode cX3_sail 52 = .ok (.istore 6, 2) := by decide +kernel
theorem dX3_sail_54 : decode cX3_sail 54 = .ok (.iload 6, 2) := by decide +kernel
theorem dX3_sail_56 : decode cX3_sail 56 = .ok (.aload_n 1, 1) := by decide +kernel
theorem dX3_sail_57 : decode cX3_sail 57 = .ok (.getfield 22, 3) := by decide +kernel
theorem dX3_sail_60 : decode cX3_sail 60 = .ok (.if_icmp .ge 39, 3) := by decide +kernel
theorem dX3_sail_63 : decode cX3_sail 63 = .ok (.aload_n 0, 1) := by decide +kernel
theorem dX3_sail_64 : decode cX3_sail 64 = .ok (.getfield 9, 3) := by decide +kernel
theorem dX3_sail_67 : decode cX3_sail 67 = .ok (.iload 6, 2) := by decide +kernel
theorem dX3_sail_69 : decode cX3_sail 69 = .ok (.sipush 240, 3) := by decide +kernel
theorem dX3_sail_72 : decode cX3_sail 72 = .ok (.imul, 1) := by decide +kernel
theorem dX3_sail_73 : decode cX3_sail 73 = .ok (.iload 5, 2) := by decide +kernel
theorem dX3_sail_75 : decode cX3_sail 75 = .ok (.iadd, 1) := by decide +kernel
theorem dX3_sail_76 : decode cX3_sail 76 = .ok (.aload_n 0, 1) := by decide +kernel
theorem dX3_sail_77 : decode cX3_sail 77 = .ok (.getfield 9, 3) := by decide +kernel
theorem dX3_sail_80 : decode cX3_sail 80 = .ok (.iload 6, 2) := by decide +kernel
theorem dX3_sail_82 : decode cX3_sail 82 = .ok (.sipush 240, 3) := by decide +kernel
theorem dX3_sail_85 : decode cX3_sail 85 = .ok (.imul, 1) := by decide +kernel
theorem dX3_sail_86 : decode cX3_sail 86 = .ok (.iload 5, 2) := by decide +kernel
theorem dX3_sail_88 : decode cX3_sail 88 = .ok (.iadd, 1) := by decide +kernel
theorem dX3_sail_89 : decode cX3_sail 89 = .ok (.iconst 1, 1) := by decide +kernel
theorem dX3_sail_90 : decode cX3_sail 90 = .ok (.isub, 1) := by decide +kernel
theorem dX3_sail_91 : decode cX3_sail 91 = .ok (.iaload, 1) := by decide +kernel
theorem dX3_sail_92 : decode cX3_sail 92 = .ok (.iastore, 1) := by decide +kernel
theorem dX3_sail_93 : decode cX3_sail 93 = .ok (.iinc 6 1, 3) := by decide +kernel
theorem dX3_sail_96 : decode cX3_sail 96 = .ok (.goto (-42), 3) := by decide +kernel
theorem dX3_sail_99 : decode cX3_sail 99 = .ok (.iconst 0, 1) := by decide +kernel
theorem dX3_sail_100 : decode cX3_sail 100 = .ok (.istore 6, 2) := by decide +kernel
theorem dX3_sail_102 : decode cX3_sail 102 = .ok (.iload 6, 2) := by decide +kernel
theorem dX3_sail_104 : decode cX3_sail 104 = .ok (.aload_n 1, 1) := by decide +kernel
theorem dX3_sail_105 : decode cX3_sail 105 = .ok (.getfield 22, 3) := by decide +kernel
theorem dX3_sail_108 : decode cX3_sail 108 = .ok (.if_icmp .ge 30, 3) := by decide +kernel
theorem dX3_sail_111 : decode cX3_sail 111 = .ok (.aload_n 0, 1) := by decide +kernel
theorem dX3_sail_112 : decode cX3_sail 112 = .ok (.aload_n 1, 1) := by decide +kernel
theorem dX3_sail_113 : decode cX3_sail 113 = .ok (.aload_n 3, 1) := by decide +kernel
theorem dX3_sail_114 : decode cX3_sail 114 = .ok (.getfield 32, 3) := by decide +kernel
theorem dX3_sail_117 : decode cX3_sail 117 = .ok (.iload 5, 2) := by decide +kernel
theorem dX3_sail_119 : decode cX3_sail 119 = .ok (.iconst 1, 1) := by decide +kernel
theorem dX3_sail_120 : decode cX3_sail 120 = .ok (.isub, 1) := by decide +kernel
theorem dX3_sail_121 : decode cX3_sail 121 = .ok (.iconst 5, 1) := by decide +kernel
theorem dX3_sail_122 : decode cX3_sail 122 = .ok (.imul, 1) := by decide +kernel
theorem dX3_sail_123 : decode cX3_sail 123 = .ok (.iload 6, 2) := by decide +kernel
theorem dX3_sail_125 : decode cX3_sail 125 = .ok (.iadd, 1) := by decide +kernel
theorem dX3_sail_126 : decode cX3_sail 126 = .ok (.iaload, 1) := by decide +kernel
theorem dX3_sail_127 : decode cX3_sail 127 = .ok (.iload 5, 2) := by decide +kernel
theorem dX3_sail_129 : decode cX3_sail 129 = .ok (.invokevirtual 37, 3) := by decide +kernel
theorem dX3_sail_132 : decode cX3_sail 132 = .ok (.iinc 6 1, 3) := by decide +kernel
theorem dX3_sail_135 : decode cX3_sail 135 = .ok (.goto (-33), 3) := by decide +kernel
theorem dX3_sail_138 : decode cX3_sail 138 = .ok (.iinc 5 1, 3) := by decide +kernel
theorem dX3_sail_141 : decode cX3_sail 141 = .ok (.goto (-97), 3) := by decide +kernel
theorem dX3_sail_144 : decode cX3_sail 144 = .ok (.return_, 1) := by decide +kernel
theorem dX3_go_0 : decode cX3_go 0 = .ok (.iload_n 2, 1) := by decide +kernel
theorem dX3_go_1 : decode cX3_go 1 = .ok (.sipush 240, 3) := by decide +kernel
theorem dX3_go_4 : decode cX3_go 4 = .ok (.imul, 1) := by decide +kernel
theorem dX3_go_5 : decode cX3_go 5 = .ok (.iload_n 3, 1) := by decide +kernel
theorem dX3_go_6 : decode cX3_go 6 = .ok (.iadd, 1) := by decide +kernel
theorem dX3_go_7 : decode cX3_go 7 = .ok (.istore 4, 2) := by decide +kernel
theorem dX3_go_9 : decode cX3_go 9 = .ok (.aload_n 1, 1) := by decide +kernel
theorem dX3_go_10 : decode cX3_go 10 = .ok (.aload_n 0, 1) := by decide +kernel
theorem dX3_go_11 : decode cX3_go 11 = .ok (.getfield 9, 3) := by decide +kernel
theorem dX3_go_14 : decode cX3_go 14 = .ok (.iload 4, 2) := by decide +kernel
theorem dX3_go_16 : decode cX3_go 16 = .ok (.iaload, 1) := by decide +kernel
theorem dX3_go_17 : decode cX3_go 17 = .ok (.aload_n 1, 1) := by decide +kernel
theorem dX3_go_18 : decode cX3_go 18 = .ok (.iload_n 2, 1) := by decide +kernel
theorem dX3_go_19 : decode cX3_go 19 = .ok (.iload_n 3, 1) := by decide +kernel
theorem dX3_go_20 : decode cX3_go 20 = .ok (.iconst 1, 1) := by decide +kernel
theorem dX3_go_21 : decode cX3_go 21 = .ok (.isub, 1) := by decide +kernel
theorem dX3_go_22 : decode cX3_go 22 = .ok (.invokevirtual 41, 3) := by decide +kernel
theorem dX3_go_25 : decode cX3_go 25 = .ok (.invokevirtual 45, 3) := by decide +kernel
theorem dX3_go_28 : decode cX3_go 28 = .ok (.istore 5, 2) := by decide +kernel
theorem dX3_go_30 : decode cX3_go 30 = .ok (.aload_n 1, 1) := by decide +kernel
theorem dX3_go_31 : decode cX3_go 31 = .ok (.iload 5, 2) := by decide +kernel
theorem dX3_go_33 : decode cX3_go 33 = .ok (.invokevirtual 48, 3) := by decide +kernel
theorem dX3_go_36 : decode cX3_go 36 = .ok (.ifCond .ne 4, 3) := by decide +kernel
theorem dX3_go_39 : decode cX3_go 39 = .ok (.return_, 1) := by decide +kernel
theorem dX3_go_40 : decode cX3_go 40 = .ok (.iconst 0, 1) := by decide +kernel
theorem dX3_go_41 : decode cX3_go 41 = .ok (.istore 6, 2) := by decide +kernel
theorem dX3_go_43 : decode cX3_go 43 = .ok (.iload 6, 2) := by decide +kernel
theorem dX3_go_45 : decode cX3_go 45 = .ok (.aload_n 1, 1) := by decide +kernel
theorem dX3_go_46 : decode cX3_go 46 = .ok (.getfield 22, 3) := by decide +kernel
theorem dX3_go_49 : decode cX3_go 49 = .ok (.if_icmp .ge 44, 3) := by decide +kernel
theorem dX3_go_52 : decode cX3_go 52 = .ok (.iload 6, 2) := by decide +kernel
theorem dX3_go_54 : decode cX3_go 54 = .ok (.iload_n 2, 1) := by decide +kernel
theorem dX3_go_55 : decode cX3_go 55 = .ok (.if_icmp .eq 32, 3) := by decide +kernel
theorem dX3_go_58 : decode cX3_go 58 = .ok (.aload_n 0, 1) := by decide +kernel
theorem dX3_go_59 : decode cX3_go 59 = .ok (.getfield 9, 3) := by decide +kernel
theorem dX3_go_62 : decode cX3_go 62 = .ok (.iload 6, 2) := by decide +kernel
theorem dX3_go_64 : decode cX3_go 64 = .ok (.sipush 240, 3) := by decide +kernel
theorem dX3_go_67 : decode cX3_go 67 = .ok (.imul, 1) := by decide +kernel
theorem dX3_go_68 : decode cX3_go 68 = .ok (.iload_n 3, 1) := by decide +kernel
theorem dX3_go_69 : decode cX3_go 69 = .ok (.iadd, 1) := by decide +kernel
theorem dX3_go_70 : decode cX3_go 70 = .ok (.iaload, 1) := by decide +kernel
theorem dX3_go_71 : decode cX3_go 71 = .ok (.iload 5, 2) := by decide +kernel
theorem dX3_go_73 : decode cX3_go 73 = .ok (.if_icmp .ne 14, 3) := by decide +kernel
theorem dX3_go_76 : decode cX3_go 76 = .ok (.aload_n 0, 1) := by decide +kernel
theorem dX3_go_77 : decode cX3_go 77 = .ok (.dup, 1) := by decide +kernel
theorem dX3_go_78 : decode cX3_go 78 = .ok (.getfield 18, 3) := by decide +kernel
theorem dX3_go_81 : decode cX3_go 81 = .ok (.iconst 1, 1) := by decide +kernel
theorem dX3_go_82 : decode cX3_go 82 = .ok (.iadd, 1) := by decide +kernel
theorem dX3_go_83 : decode cX3_go 83 = .ok (.putfield 18, 3) := by decide +kernel
theorem dX3_go_86 : decode cX3_go 86 = .ok (.return_, 1) := by decide +kernel
theorem dX3_go_87 : decode cX3_go 87 = .ok (.iinc 6 1, 3) := by decide +kernel
theorem dX3_go_90 : decode cX3_go 90 = .ok (.goto (-47), 3) := by decide +kernel
theorem dX3_go_93 : decode cX3_go 93 = .ok (.aload_n 0, 1) := by decide +kernel
theorem dX3_go_94 : decode cX3_go 94 = .ok (.getfield 9, 3) := by decide +kernel
theorem dX3_go_97 : decode cX3_go 97 = .ok (.iload 4, 2) := by decide +kernel
theorem dX3_go_99 : decode cX3_go 99 = .ok (.iload 5, 2) := by decide +kernel
theorem dX3_go_101 : decode cX3_go 101 = .ok (.iastore, 1) := by decide +kernel
theorem dX3_go_102 : decode cX3_go 102 = .ok (.return_, 1) := by decide +kernel
theorem dX3_look_0 : decode cX3_look 0 = .ok (.iconst 0, 1) := by decide +kernel
theorem dX3_look_1 : decode cX3_look 1 = .ok (.istore 4, 2) := by decide +kernel
theorem dX3_look_3 : decode cX3_look 3 = .ok (.iload 4, 2) := by decide +kernel
theorem dX3_look_5 : decode cX3_look 5 = .ok (.bipush 10, 2) := by decide +kernel
theorem dX3_look_7 : decode cX3_look 7 = .ok (.if_icmp .ge 24, 3) := by decide +kernel
theorem dX3_look_10 : decode cX3_look 10 = .ok (.aload_n 0, 1) := by decide +kernel
theorem dX3_look_11 : decode cX3_look 11 = .ok (.aload_n 1, 1) := by decide +kernel
theorem dX3_look_12 : decode cX3_look 12 = .ok (.aload_n 2, 1) := by decide +kernel
theorem dX3_look_13 : decode cX3_look 13 = .ok (.aload_n 3, 1) := by decide +kernel
theorem dX3_look_14 : decode cX3_look 14 = .ok (.iload 4, 2) := by decide +kernel
theorem dX3_look_16 : decode cX3_look 16 = .ok (.aload_n 1, 1) := by decide +kernel
theorem dX3_look_17 : decode cX3_look 17 = .ok (.iload 4, 2) := by decide +kernel
theorem dX3_look_19 : decode cX3_look 19 = .ok (.invokevirtual 52, 3) := by decide +kernel
theorem dX3_look_22 : decode cX3_look 22 = .ok (.invokevirtual 56, 3) := by decide +kernel
theorem dX3_look_25 : decode cX3_look 25 = .ok (.iinc 4 1, 3) := by decide +kernel
theorem dX3_look_28 : decode cX3_look 28 = .ok (.goto (-25), 3) := by decide +kernel
theorem dX3_look_31 : decode cX3_look 31 = .ok (.return_, 1) := by decide +kernel
theorem dX3_lookInNight_0 : decode cX3_lookInNight 0 = .ok (.iload 4, 2) := by decide +kernel
theorem dX3_lookInNight_2 : decode cX3_lookInNight 2 = .ok (.bipush 24, 2) := by decide +kernel
theorem dX3_lookInNight_4 : decode cX3_lookInNight 4 = .ok (.imul, 1) := by decide +kernel
theorem dX3_lookInNight_5 : decode cX3_lookInNight 5 = .ok (.bipush 12, 2) := by decide +kernel
theorem dX3_lookInNight_7 : decode cX3_lookInNight 7 = .ok (.iadd, 1) := by decide +kernel
theorem dX3_lookInNight_8 : decode cX3_lookInNight 8 = .ok (.istore 6, 2) := by decide +kernel
theorem dX3_lookInNight_10 : decode cX3_lookInNight 10 = .ok (.iload 6, 2) := by decide +kernel
theorem dX3_lookInNight_12 : decode cX3_lookInNight 12 = .ok (.iload 4, 2) := by decide +kernel
theorem dX3_lookInNight_14 : decode cX3_lookInNight 14 = .ok (.bipush 24, 2) := by decide +kernel
theorem dX3_lookInNight_16 : decode cX3_lookInNight 16 = .ok (.imul, 1) := by decide +kernel
theorem dX3_lookInNight_17 : decode cX3_lookInNight 17 = .ok (.bipush 24, 2) := by decide +kernel
theorem dX3_lookInNight_19 : decode cX3_lookInNight 19 = .ok (.iadd, 1) := by decide +kernel
theorem dX3_lookInNight_20 : decode cX3_lookInNight 20 = .ok (.if_icmp .ge 87, 3) := by decide +kernel
theorem dX3_lookInNight_23 : decode cX3_lookInNight 23 = .ok (.iconst 0, 1) := by decide +kernel
theorem dX3_lookInNight_24 : decode cX3_lookInNight 24 = .ok (.istore 7, 2) := by decide +kernel
theorem dX3_lookInNight_26 : decode cX3_lookInNight 26 = .ok (.iload 7, 2) := by decide +kernel
theorem dX3_lookInNight_28 : decode cX3_lookInNight 28 = .ok (.aload_n 1, 1) := by decide +kernel
theorem dX3_lookInNight_29 : decode cX3_lookInNight 29 = .ok (.getfield 60, 3) := by decide +kernel
theorem dX3_lookInNight_32 : decode cX3_lookInNight 32 = .ok (.if_icmp .ge 24, 3) := by decide +kernel
theorem dX3_lookInNight_35 : decode cX3_lookInNight 35 = .ok (.aload_n 0, 1) := by decide +kernel
theorem dX3_lookInNight_36 : decode cX3_lookInNight 36 = .ok (.getfield 15, 3) := by decide +kernel
theorem dX3_lookInNight_39 : decode cX3_lookInNight 39 = .ok (.iload 7, 2) := by decide +kernel
theorem dX3_lookInNight_41 : decode cX3_lookInNight 41 = .ok (.sipush 240, 3) := by decide +kernel
theorem dX3_lookInNight_44 : decode cX3_lookInNight 44 = .ok (.imul, 1) := by decide +kernel
theorem dX3_lookInNight_45 : decode cX3_lookInNight 45 = .ok (.iload 6, 2) := by decide +kernel
theorem dX3_lookInNight_47 : decode cX3_lookInNight 47 = .ok (.iadd, 1) := by decide +kernel
theorem dX3_lookInNight_48 : decode cX3_lookInNight 48 = .ok (.iconst 0, 1) := by decide +kernel
theorem dX3_lookInNight_49 : decode cX3_lookInNight 49 = .ok (.iastore, 1) := by decide +kernel
theorem dX3_lookInNight_50 : decode cX3_lookInNight 50 = .ok (.iinc 7 1, 3) := by decide +kernel
theorem dX3_lookInNight_53 : decode cX3_lookInNight 53 = .ok (.goto (-27), 3) := by decide +kernel
theorem dX3_lookInNight_56 : decode cX3_lookInNight 56 = .ok (.iconst 0, 1) := by decide +kernel
theorem dX3_lookInNight_57 : decode cX3_lookInNight 57 = .ok (.istore 7, 2) := by decide +kernel
theorem dX3_lookInNight_59 : decode cX3_lookInNight 59 = .ok (.iload 7, 2) := by decide +kernel
theorem dX3_lookInNight_61 : decode cX3_lookInNight 61 = .ok (.aload_n 1, 1) := by decide +kernel
theorem dX3_lookInNight_62 : decode cX3_lookInNight 62 = .ok (.getfield 22, 3) := by decide +kernel
theorem dX3_lookInNight_65 : decode cX3_lookInNight 65 = .ok (.if_icmp .ge 36, 3) := by decide +kernel
theorem dX3_lookInNight_68 : decode cX3_lookInNight 68 = .ok (.aload_n 2, 1) := by decide +kernel
theorem dX3_lookInNight_69 : decode cX3_lookInNight 69 = .ok (.getfield 63, 3) := by decide +kernel
theorem dX3_lookInNight_72 : decode cX3_lookInNight 72 = .ok (.iload 7, 2) := by decide +kernel
theorem dX3_lookInNight_74 : decode cX3_lookInNight 74 = .ok (.iaload, 1) := by decide +kernel
theorem dX3_lookInNight_75 : decode cX3_lookInNight 75 = .ok (.iload 6, 2) := by decide +kernel
theorem dX3_lookInNight_77 : decode cX3_lookInNight 77 = .ok (.invokestatic 66, 3) := by decide +kernel
theorem dX3_lookInNight_80 : decode cX3_lookInNight 80 = .ok (.ifCond .eq 15, 3) := by decide +kernel
theorem dX3_lookInNight_83 : decode cX3_lookInNight 83 = .ok (.aload_n 0, 1) := by decide +kernel
theorem dX3_lookInNight_84 : decode cX3_lookInNight 84 = .ok (.aload_n 1, 1) := by decide +kernel
theorem dX3_lookInNight_85 : decode cX3_lookInNight 85 = .ok (.aload_n 3, 1) := by decide +kernel
theorem dX3_lookInNight_86 : decode cX3_lookInNight 86 = .ok (.iload 7, 2) := by decide +kernel
theorem dX3_lookInNight_88 : decode cX3_lookInNight 88 = .ok (.iload 6, 2) := by decide +kernel
theorem dX3_lookInNight_90 : decode cX3_lookInNight 90 = .ok (.iload 5, 2) := by decide +kernel
theorem dX3_lookInNight_92 : decode cX3_lookInNight 92 = .ok (.invokevirtual 70, 3) := by decide +kernel
theorem dX3_lookInNight_95 : decode cX3_lookInNight 95 = .ok (.iinc 7 1, 3) := by decide +kernel
theorem dX3_lookInNight_98 : decode cX3_lookInNight 98 = .ok (.goto (-39), 3) := by decide +kernel
theorem dX3_lookInNight_101 : decode cX3_lookInNight 101 = .ok (.iinc 6 1, 3) := by decide +kernel
theorem dX3_lookInNight_104 : decode cX3_lookInNight 104 = .ok (.goto (-94), 3) := by decide +kernel
theorem dX3_lookInNight_107 : decode cX3_lookInNight 107 = .ok (.return_, 1) := by decide +kernel
theorem dX3_show_0 : decode cX3_show 0 = .ok (.aload_n 1, 1) := by decide +kernel
theorem dX3_show_1 : decode cX3_show 1 = .ok (.getfield 74, 3) := by decide +kernel
theorem dX3_show_4 : decode cX3_show 4 = .ok (.iload_n 3, 1) := by decide +kernel
theorem dX3_show_5 : decode cX3_show 5 = .ok (.iaload, 1) := by decide +kernel
theorem dX3_show_6 : decode cX3_show 6 = .ok (.iload 5, 2) := by decide +kernel
theorem dX3_show_8 : decode cX3_show 8 = .ok (.isub, 1) := by decide +kernel
theorem dX3_show_9 : decode cX3_show 9 = .ok (.istore 6, 2) := by decide +kernel
theorem dX3_show_11 : decode cX3_show 11 = .ok (.aload_n 0, 1) := by decide +kernel
theorem dX3_show_12 : decode cX3_show 12 = .ok (.getfield 9, 3) := by decide +kernel
theorem dX3_show_15 : decode cX3_show 15 = .ok (.iload_n 3, 1) := by decide +kernel
theorem dX3_show_16 : decode cX3_show 16 = .ok (.sipush 240, 3) := by decide +kernel
theorem dX3_show_19 : decode cX3_show 19 = .ok (.imul, 1) := by decide +kernel
theorem dX3_show_20 : decode cX3_show 20 = .ok (.iload 4, 2) := by decide +kernel
theorem dX3_show_22 : decode cX3_show 22 = .ok (.iadd, 1) := by decide +kernel
theorem dX3_show_23 : decode cX3_show 23 = .ok (.iaload, 1) := by decide +kernel
theorem dX3_show_24 : decode cX3_show 24 = .ok (.istore 7, 2) := by decide +kernel
theorem dX3_show_26 : decode cX3_show 26 = .ok (.iconst 0, 1) := by decide +kernel
theorem dX3_show_27 : decode cX3_show 27 = .ok (.istore 8, 2) := by decide +kernel
theorem dX3_show_29 : decode cX3_show 29 = .ok (.iload 8, 2) := by decide +kernel
theorem dX3_show_31 : decode cX3_show 31 = .ok (.aload_n 1, 1) := by decide +kernel
theorem dX3_show_32 : decode cX3_show 32 = .ok (.getfield 60, 3) := by decide +kernel
theorem dX3_show_35 : decode cX3_show 35 = .ok (.if_icmp .ge 45, 3) := by decide +kernel
theorem dX3_show_38 : decode cX3_show 38 = .ok (.aload_n 2, 1) := by decide +kernel
theorem dX3_show_39 : decode cX3_show 39 = .ok (.iload 8, 2) := by decide +kernel
theorem dX3_show_41 : decode cX3_show 41 = .ok (.sipush 144, 3) := by decide +kernel
theorem dX3_show_44 : decode cX3_show 44 = .ok (.imul, 1) := by decide +kernel
theorem dX3_show_45 : decode cX3_show 45 = .ok (.iload 7, 2) := by decide +kernel
theorem dX3_show_47 : decode cX3_show 47 = .ok (.iadd, 1) := by decide +kernel
theorem dX3_show_48 : decode cX3_show 48 = .ok (.iaload, 1) := by decide +kernel
theorem dX3_show_49 : decode cX3_show 49 = .ok (.iload 6, 2) := by decide +kernel
theorem dX3_show_51 : decode cX3_show 51 = .ok (.if_icmp .gt 23, 3) := by decide +kernel
theorem dX3_show_54 : decode cX3_show 54 = .ok (.aload_n 0, 1) := by decide +kernel
theorem dX3_show_55 : decode cX3_show 55 = .ok (.getfield 15, 3) := by decide +kernel
theorem dX3_show_58 : decode cX3_show 58 = .ok (.iload 8, 2) := by decide +kernel
theorem dX3_show_60 : decode cX3_show 60 = .ok (.sipush 240, 3) := by decide +kernel
theorem dX3_show_63 : decode cX3_show 63 = .ok (.imul, 1) := by decide +kernel
theorem dX3_show_64 : decode cX3_show 64 = .ok (.iload 4, 2) := by decide +kernel
theorem dX3_show_66 : decode cX3_show 66 = .ok (.iadd, 1) := by decide +kernel
theorem dX3_show_67 : decode cX3_show 67 = .ok (.dup2, 1) := by decide +kernel
theorem dX3_show_68 : decode cX3_show 68 = .ok (.iaload, 1) := by decide +kernel
theorem dX3_show_69 : decode cX3_show 69 = .ok (.iconst 1, 1) := by decide +kernel
theorem dX3_show_70 : decode cX3_show 70 = .ok (.iload_n 3, 1) := by decide +kernel
theorem dX3_show_71 : decode cX3_show 71 = .ok (.ishl, 1) := by decide +kernel
theorem dX3_show_72 : decode cX3_show 72 = .ok (.ior, 1) := by decide +kernel
theorem dX3_show_73 : decode cX3_show 73 = .ok (.iastore, 1) := by decide +kernel
theorem dX3_show_74 : decode cX3_show 74 = .ok (.iinc 8 1, 3) := by decide +kernel
theorem dX3_show_77 : decode cX3_show 77 = .ok (.goto (-48), 3) := by decide +kernel
theorem dX3_show_80 : decode cX3_show 80 = .ok (.return_, 1) := by decide +kernel
theorem dX3_hoursBy_0 : decode cX3_hoursBy 0 = .ok (.iconst 0, 1) := by decide +kernel
theorem dX3_hoursBy_1 : decode cX3_hoursBy 1 = .ok (.istore 4, 2) := by decide +kernel
theorem dX3_hoursBy_3 : decode cX3_hoursBy 3 = .ok (.iload_n 1, 1) := by decide +kernel
theorem dX3_hoursBy_4 : decode cX3_hoursBy 4 = .ok (.sipush 240, 3) := by decide +kernel
theorem dX3_hoursBy_7 : decode cX3_hoursBy 7 = .ok (.imul, 1) := by decide +kernel
theorem dX3_hoursBy_8 : decode cX3_hoursBy 8 = .ok (.iload_n 2, 1) := by decide +kernel
theorem dX3_hoursBy_9 : decode cX3_hoursBy 9 = .ok (.bipush 24, 2) := by decide +kernel
theorem dX3_hoursBy_11 : decode cX3_hoursBy 11 = .ok (.imul, 1) := by decide +kernel
theorem dX3_hoursBy_12 : decode cX3_hoursBy 12 = .ok (.iadd, 1) := by decide +kernel
theorem dX3_hoursBy_13 : decode cX3_hoursBy 13 = .ok (.istore 5, 2) := by decide +kernel
theorem dX3_hoursBy_15 : decode cX3_hoursBy 15 = .ok (.bipush 12, 2) := by decide +kernel
theorem dX3_hoursBy_17 : decode cX3_hoursBy 17 = .ok (.istore 6, 2) := by decide +kernel
theorem dX3_hoursBy_19 : decode cX3_hoursBy 19 = .ok (.iload 6, 2) := by decide +kernel
theorem dX3_hoursBy_21 : decode cX3_hoursBy 21 = .ok (.bipush 24, 2) := by decide +kernel
theorem dX3_hoursBy_23 : decode cX3_hoursBy 23 = .ok (.if_icmp .ge 27, 3) := by decide +kernel
theorem dX3_hoursBy_26 : decode cX3_hoursBy 26 = .ok (.aload_n 0, 1) := by decide +kernel
theorem dX3_hoursBy_27 : decode cX3_hoursBy 27 = .ok (.getfield 15, 3) := by decide +kernel
theorem dX3_hoursBy_30 : decode cX3_hoursBy 30 = .ok (.iload 5, 2) := by decide +kernel
theorem dX3_hoursBy_32 : decode cX3_hoursBy 32 = .ok (.iload 6, 2) := by decide +kernel
theorem dX3_hoursBy_34 : decode cX3_hoursBy 34 = .ok (.iadd, 1) := by decide +kernel
theorem dX3_hoursBy_35 : decode cX3_hoursBy 35 = .ok (.iaload, 1) := by decide +kernel
theorem dX3_hoursBy_36 : decode cX3_hoursBy 36 = .ok (.iload_n 3, 1) := by decide +kernel
theorem dX3_hoursBy_37 : decode cX3_hoursBy 37 = .ok (.iand, 1) := by decide +kernel
theorem dX3_hoursBy_38 : decode cX3_hoursBy 38 = .ok (.ifCond .eq 6, 3) := by decide +kernel
theorem dX3_hoursBy_41 : decode cX3_hoursBy 41 = .ok (.iinc 4 1, 3) := by decide +kernel
theorem dX3_hoursBy_44 : decode cX3_hoursBy 44 = .ok (.iinc 6 1, 3) := by decide +kernel
theorem dX3_hoursBy_47 : decode cX3_hoursBy 47 = .ok (.goto (-28), 3) := by decide +kernel
theorem dX3_hoursBy_50 : decode cX3_hoursBy 50 = .ok (.iload 4, 2) := by decide +kernel
theorem dX3_hoursBy_52 : decode cX3_hoursBy 52 = .ok (.ireturn, 1) := by decide +kernel
theorem dX3_contentBy_0 : decode cX3_contentBy 0 = .ok (.iconst 0, 1) := by decide +kernel
theorem dX3_contentBy_1 : decode cX3_contentBy 1 = .ok (.istore 5, 2) := by decide +kernel
theorem dX3_contentBy_3 : decode cX3_contentBy 3 = .ok (.iconst 0, 1) := by decide +kernel
theorem dX3_contentBy_4 : decode cX3_contentBy 4 = .ok (.istore 6, 2) := by decide +kernel
theorem dX3_contentBy_6 : decode cX3_contentBy 6 = .ok (.iload 6, 2) := by decide +kernel
theorem dX3_contentBy_8 : decode cX3_contentBy 8 = .ok (.aload_n 1, 1) := by decide +kernel
theorem dX3_contentBy_9 : decode cX3_contentBy 9 = .ok (.getfield 60, 3) := by decide +kernel
theorem dX3_contentBy_12 : decode cX3_contentBy 12 = .ok (.if_icmp .ge 37, 3) := by decide +kernel
theorem dX3_contentBy_15 : decode cX3_contentBy 15 = .ok (.aload_n 0, 1) := by decide +kernel
theorem dX3_contentBy_16 : decode cX3_contentBy 16 = .ok (.iload 6, 2) := by decide +kernel
theorem dX3_contentBy_18 : decode cX3_contentBy 18 = .ok (.iload_n 3, 1) := by decide +kernel
theorem dX3_contentBy_19 : decode cX3_contentBy 19 = .ok (.iload 4, 2) := by decide +kernel
theorem dX3_contentBy_21 : decode cX3_contentBy 21 = .ok (.invokevirtual 77, 3) := by decide +kernel
theorem dX3_contentBy_24 : decode cX3_contentBy 24 = .ok (.aload_n 2, 1) := by decide +kernel
theorem dX3_contentBy_25 : decode cX3_contentBy 25 = .ok (.getfield 81, 3) := by decide +kernel
theorem dX3_contentBy_28 : decode cX3_contentBy 28 = .ok (.iload 6, 2) := by decide +kernel
theorem dX3_contentBy_30 : decode cX3_contentBy 30 = .ok (.iaload, 1) := by decide +kernel
theorem dX3_contentBy_31 : decode cX3_contentBy 31 = .ok (.if_icmp .lt 12, 3) := by decide +kernel
theorem dX3_contentBy_34 : decode cX3_contentBy 34 = .ok (.iload 5, 2) := by decide +kernel
theorem dX3_contentBy_36 : decode cX3_contentBy 36 = .ok (.iconst 1, 1) := by decide +kernel
theorem dX3_contentBy_37 : decode cX3_contentBy 37 = .ok (.iload 6, 2) := by decide +kernel
theorem dX3_contentBy_39 : decode cX3_contentBy 39 = .ok (.ishl, 1) := by decide +kernel
theorem dX3_contentBy_40 : decode cX3_contentBy 40 = .ok (.ior, 1) := by decide +kernel
theorem dX3_contentBy_41 : decode cX3_contentBy 41 = .ok (.istore 5, 2) := by decide +kernel
theorem dX3_contentBy_43 : decode cX3_contentBy 43 = .ok (.iinc 6 1, 3) := by decide +kernel
theorem dX3_contentBy_46 : decode cX3_contentBy 46 = .ok (.goto (-40), 3) := by decide +kernel
theorem dX3_contentBy_49 : decode cX3_contentBy 49 = .ok (.iload 5, 2) := by decide +kernel
theorem dX3_contentBy_51 : decode cX3_contentBy 51 = .ok (.ireturn, 1) := by decide +kernel
theorem dX3_sumOfWatches_0 : decode cX3_sumOfWatches 0 = .ok (.iconst 0, 1) := by decide +kernel
theorem dX3_sumOfWatches_1 : decode cX3_sumOfWatches 1 = .ok (.istore_n 2, 1) := by decide +kernel
theorem dX3_sumOfWatches_2 : decode cX3_sumOfWatches 2 = .ok (.iconst 0, 1) := by decide +kernel
theorem dX3_sumOfWatches_3 : decode cX3_sumOfWatches 3 = .ok (.istore_n 3, 1) := by decide +kernel
theorem dX3_sumOfWatches_4 : decode cX3_sumOfWatches 4 = .ok (.iload_n 3, 1) := by decide +kernel
theorem dX3_sumOfWatches_5 : decode cX3_sumOfWatches 5 = .ok (.iload_n 1, 1) := by decide +kernel
theorem dX3_sumOfWatches_6 : decode cX3_sumOfWatches 6 = .ok (.if_icmp .ge 37, 3) := by decide +kernel
theorem dX3_sumOfWatches_9 : decode cX3_sumOfWatches 9 = .ok (.iconst 0, 1) := by decide +kernel
theorem dX3_sumOfWatches_10 : decode cX3_sumOfWatches 10 = .ok (.istore 4, 2) := by decide +kernel
theorem dX3_sumOfWatches_12 : decode cX3_sumOfWatches 12 = .ok (.iload 4, 2) := by decide +kernel
theorem dX3_sumOfWatches_14 : decode cX3_sumOfWatches 14 = .ok (.bipush 10, 2) := by decide +kernel
theorem dX3_sumOfWatches_16 : decode cX3_sumOfWatches 16 = .ok (.if_icmp .ge 21, 3) := by decide +kernel
theorem dX3_sumOfWatches_19 : decode cX3_sumOfWatches 19 = .ok (.iload_n 2, 1) := by decide +kernel
theorem dX3_sumOfWatches_20 : decode cX3_sumOfWatches 20 = .ok (.aload_n 0, 1) := by decide +kernel
theorem dX3_sumOfWatches_21 : decode cX3_sumOfWatches 21 = .ok (.iload_n 3, 1) := by decide +kernel
theorem dX3_sumOfWatches_22 : decode cX3_sumOfWatches 22 = .ok (.iload 4, 2) := by decide +kernel
theorem dX3_sumOfWatches_24 : decode cX3_sumOfWatches 24 = .ok (.bipush 31, 2) := by decide +kernel
theorem dX3_sumOfWatches_26 : decode cX3_sumOfWatches 26 = .ok (.invokevirtual 77, 3) := by decide +kernel
theorem dX3_sumOfWatches_29 : decode cX3_sumOfWatches 29 = .ok (.iadd, 1) := by decide +kernel
theorem dX3_sumOfWatches_30 : decode cX3_sumOfWatches 30 = .ok (.istore_n 2, 1) := by decide +kernel
theorem dX3_sumOfWatches_31 : decode cX3_sumOfWatches 31 = .ok (.iinc 4 1, 3) := by decide +kernel
theorem dX3_sumOfWatches_34 : decode cX3_sumOfWatches 34 = .ok (.goto (-22), 3) := by decide +kernel
theorem dX3_sumOfWatches_37 : decode cX3_sumOfWatches 37 = .ok (.iinc 3 1, 3) := by decide +kernel
theorem dX3_sumOfWatches_40 : decode cX3_sumOfWatches 40 = .ok (.goto (-36), 3) := by decide +kernel
theorem dX3_sumOfWatches_43 : decode cX3_sumOfWatches 43 = .ok (.iload_n 2, 1) := by decide +kernel
theorem dX3_sumOfWatches_44 : decode cX3_sumOfWatches 44 = .ok (.ireturn, 1) := by decide +kernel
theorem dX3_lightsIn_0 : decode cX3_lightsIn 0 = .ok (.iconst 0, 1) := by decide +kernel
theorem dX3_lightsIn_1 : decode cX3_lightsIn 1 = .ok (.istore_n 3, 1) := by decide +kernel
theorem dX3_lightsIn_2 : decode cX3_lightsIn 2 = .ok (.iload_n 1, 1) := by decide +kernel
theorem dX3_lightsIn_3 : decode cX3_lightsIn 3 = .ok (.sipush 240, 3) := by decide +kernel
theorem dX3_lightsIn_6 : decode cX3_lightsIn 6 = .ok (.imul, 1) := by decide +kernel
theorem dX3_lightsIn_7 : decode cX3_lightsIn 7 = .ok (.iload_n 2, 1) := by decide +kernel
theorem dX3_lightsIn_8 : decode cX3_lightsIn 8 = .ok (.bipush 24, 2) := by decide +kernel
theorem dX3_lightsIn_10 : decode cX3_lightsIn 10 = .ok (.imul, 1) := by decide +kernel
theorem dX3_lightsIn_11 : decode cX3_lightsIn 11 = .ok (.iadd, 1) := by decide +kernel
theorem dX3_lightsIn_12 : decode cX3_lightsIn 12 = .ok (.istore 4, 2) := by decide +kernel
theorem dX3_lightsIn_14 : decode cX3_lightsIn 14 = .ok (.bipush 12, 2) := by decide +kernel
theorem dX3_lightsIn_16 : decode cX3_lightsIn 16 = .ok (.istore 5, 2) := by decide +kernel
theorem dX3_lightsIn_18 : decode cX3_lightsIn 18 = .ok (.iload 5, 2) := by decide +kernel
theorem dX3_lightsIn_20 : decode cX3_lightsIn 20 = .ok (.bipush 24, 2) := by decide +kernel
theorem dX3_lightsIn_22 : decode cX3_lightsIn 22 = .ok (.if_icmp .ge 22, 3) := by decide +kernel
theorem dX3_lightsIn_25 : decode cX3_lightsIn 25 = .ok (.iload_n 3, 1) := by decide +kernel
theorem dX3_lightsIn_26 : decode cX3_lightsIn 26 = .ok (.aload_n 0, 1) := by decide +kernel
theorem dX3_lightsIn_27 : decode cX3_lightsIn 27 = .ok (.getfield 15, 3) := by decide +kernel
theorem dX3_lightsIn_30 : decode cX3_lightsIn 30 = .ok (.iload 4, 2) := by decide +kernel
theorem dX3_lightsIn_32 : decode cX3_lightsIn 32 = .ok (.iload 5, 2) := by decide +kernel
theorem dX3_lightsIn_34 : decode cX3_lightsIn 34 = .ok (.iadd, 1) := by decide +kernel
theorem dX3_lightsIn_35 : decode cX3_lightsIn 35 = .ok (.iaload, 1) := by decide +kernel
theorem dX3_lightsIn_36 : decode cX3_lightsIn 36 = .ok (.ior, 1) := by decide +kernel
theorem dX3_lightsIn_37 : decode cX3_lightsIn 37 = .ok (.istore_n 3, 1) := by decide +kernel
theorem dX3_lightsIn_38 : decode cX3_lightsIn 38 = .ok (.iinc 5 1, 3) := by decide +kernel
theorem dX3_lightsIn_41 : decode cX3_lightsIn 41 = .ok (.goto (-23), 3) := by decide +kernel
theorem dX3_lightsIn_44 : decode cX3_lightsIn 44 = .ok (.iload_n 3, 1) := by decide +kernel
theorem dX3_lightsIn_45 : decode cX3_lightsIn 45 = .ok (.ireturn, 1) := by decide +kernel
theorem dX3_firstUnseen_0 : decode cX3_firstUnseen 0 = .ok (.iconst 0, 1) := by decide +kernel
theorem dX3_firstUnseen_1 : decode cX3_firstUnseen 1 = .ok (.istore_n 2, 1) := by decide +kernel
theorem dX3_firstUnseen_2 : decode cX3_firstUnseen 2 = .ok (.iload_n 2, 1) := by decide +kernel
theorem dX3_firstUnseen_3 : decode cX3_firstUnseen 3 = .ok (.bipush 10, 2) := by decide +kernel
theorem dX3_firstUnseen_5 : decode cX3_firstUnseen 5 = .ok (.if_icmp .ge 20, 3) := by decide +kernel
theorem dX3_firstUnseen_8 : decode cX3_firstUnseen 8 = .ok (.aload_n 0, 1) := by decide +kernel
theorem dX3_firstUnseen_9 : decode cX3_firstUnseen 9 = .ok (.iload_n 1, 1) := by decide +kernel
theorem dX3_firstUnseen_10 : decode cX3_firstUnseen 10 = .ok (.iload_n 2, 1) := by decide +kernel
theorem dX3_firstUnseen_11 : decode cX3_firstUnseen 11 = .ok (.invokevirtual 84, 3) := by decide +kernel
theorem dX3_firstUnseen_14 : decode cX3_firstUnseen 14 = .ok (.ifCond .ne 5, 3) := by decide +kernel
theorem dX3_firstUnseen_17 : decode cX3_firstUnseen 17 = .ok (.iload_n 2, 1) := by decide +kernel
theorem dX3_firstUnseen_18 : decode cX3_firstUnseen 18 = .ok (.ireturn, 1) := by decide +kernel
theorem dX3_firstUnseen_19 : decode cX3_firstUnseen 19 = .ok (.iinc 2 1, 3) := by decide +kernel
theorem dX3_firstUnseen_22 : decode cX3_firstUnseen 22 = .ok (.goto (-20), 3) := by decide +kernel
theorem dX3_firstUnseen_25 : decode cX3_firstUnseen 25 = .ok (.iconst (-1), 1) := by decide +kernel
theorem dX3_firstUnseen_26 : decode cX3_firstUnseen 26 = .ok (.ireturn, 1) := by decide +kernel
theorem dX3_longestDark_0 : decode cX3_longestDark 0 = .ok (.iconst 0, 1) := by decide +kernel
theorem dX3_longestDark_1 : decode cX3_longestDark 1 = .ok (.istore_n 2, 1) := by decide +kernel
theorem dX3_longestDark_2 : decode cX3_longestDark 2 = .ok (.iconst 0, 1) := by decide +kernel
theorem dX3_longestDark_3 : decode cX3_longestDark 3 = .ok (.istore_n 3, 1) := by decide +kernel
theorem dX3_longestDark_4 : decode cX3_longestDark 4 = .ok (.iconst 0, 1) := by decide +kernel
theorem dX3_longestDark_5 : decode cX3_longestDark 5 = .ok (.istore 4, 2) := by decide +kernel
theorem dX3_longestDark_7 : decode cX3_longestDark 7 = .ok (.iload 4, 2) := by decide +kernel
theorem dX3_longestDark_9 : decode cX3_longestDark 9 = .ok (.sipush 240, 3) := by decide +kernel
theorem dX3_longestDark_12 : decode cX3_longestDark 12 = .ok (.if_icmp .ge 49, 3) := by decide +kernel
theorem dX3_longestDark_15 : decode cX3_longestDark 15 = .ok (.iload 4, 2) := by decide +kernel
theorem dX3_longestDark_17 : decode cX3_longestDark 17 = .ok (.bipush 24, 2) := by decide +kernel
theorem dX3_longestDark_19 : decode cX3_longestDark 19 = .ok (.irem, 1) := by decide +kernel
theorem dX3_longestDark_20 : decode cX3_longestDark 20 = .ok (.bipush 12, 2) := by decide +kernel
theorem dX3_longestDark_22 : decode cX3_longestDark 22 = .ok (.if_icmp .lt 33, 3) := by decide +kernel
theorem dX3_longestDark_25 : decode cX3_longestDark 25 = .ok (.aload_n 0, 1) := by decide +kernel
theorem dX3_longestDark_26 : decode cX3_longestDark 26 = .ok (.getfield 15, 3) := by decide +kernel
theorem dX3_longestDark_29 : decode cX3_longestDark 29 = .ok (.iload_n 1, 1) := by decide +kernel
theorem dX3_longestDark_30 : decode cX3_longestDark 30 = .ok (.sipush 240, 3) := by decide +kernel
theorem dX3_longestDark_33 : decode cX3_longestDark 33 = .ok (.imul, 1) := by decide +kernel
theorem dX3_longestDark_34 : decode cX3_longestDark 34 = .ok (.iload 4, 2) := by decide +kernel
theorem dX3_longestDark_36 : decode cX3_longestDark 36 = .ok (.iadd, 1) := by decide +kernel
theorem dX3_longestDark_37 : decode cX3_longestDark 37 = .ok (.iaload, 1) := by decide +kernel
theorem dX3_longestDark_38 : decode cX3_longestDark 38 = .ok (.ifCond .ne 9, 3) := by decide +kernel
theorem dX3_longestDark_41 : decode cX3_longestDark 41 = .ok (.iload_n 3, 1) := by decide +kernel
theorem dX3_longestDark_42 : decode cX3_longestDark 42 = .ok (.iconst 1, 1) := by decide +kernel
theorem dX3_longestDark_43 : decode cX3_longestDark 43 = .ok (.iadd, 1) := by decide +kernel
theorem dX3_longestDark_44 : decode cX3_longestDark 44 = .ok (.goto 4, 3) := by decide +kernel
theorem dX3_longestDark_47 : decode cX3_longestDark 47 = .ok (.iconst 0, 1) := by decide +kernel
theorem dX3_longestDark_48 : decode cX3_longestDark 48 = .ok (.istore_n 3, 1) := by decide +kernel
theorem dX3_longestDark_49 : decode cX3_longestDark 49 = .ok (.iload_n 2, 1) := by decide +kernel
theorem dX3_longestDark_50 : decode cX3_longestDark 50 = .ok (.iload_n 3, 1) := by decide +kernel
theorem dX3_longestDark_51 : decode cX3_longestDark 51 = .ok (.invokestatic 87, 3) := by decide +kernel
theorem dX3_longestDark_54 : decode cX3_longestDark 54 = .ok (.istore_n 2, 1) := by decide +kernel
theorem dX3_longestDark_55 : decode cX3_longestDark 55 = .ok (.iinc 4 1, 3) := by decide +kernel
theorem dX3_longestDark_58 : decode cX3_longestDark 58 = .ok (.goto (-51), 3) := by decide +kernel
theorem dX3_longestDark_61 : decode cX3_longestDark 61 = .ok (.iload_n 2, 1) := by decide +kernel
theorem dX3_longestDark_62 : decode cX3_longestDark 62 = .ok (.ireturn, 1) := by decide +kernel
theorem dX3_travelsOf_0 : decode cX3_travelsOf 0 = .ok (.iconst 0, 1) := by decide +kernel
theorem dX3_travelsOf_1 : decode cX3_travelsOf 1 = .ok (.istore_n 2, 1) := by decide +kernel
theorem dX3_travelsOf_2 : decode cX3_travelsOf 2 = .ok (.iconst 0, 1) := by decide +kernel
theorem dX3_travelsOf_3 : decode cX3_travelsOf 3 = .ok (.istore_n 3, 1) := by decide +kernel
theorem dX3_travelsOf_4 : decode cX3_travelsOf 4 = .ok (.iload_n 3, 1) := by decide +kernel
theorem dX3_travelsOf_5 : decode cX3_travelsOf 5 = .ok (.iconst 1, 1) := by decide +kernel
theorem dX3_travelsOf_6 : decode cX3_travelsOf 6 = .ok (.iadd, 1) := by decide +kernel
theorem dX3_travelsOf_7 : decode cX3_travelsOf 7 = .ok (.sipush 240, 3) := by decide +kernel
theorem dX3_travelsOf_10 : decode cX3_travelsOf 10 = .ok (.if_icmp .ge 29, 3) := by decide +kernel
theorem dX3_travelsOf_13 : decode cX3_travelsOf 13 = .ok (.aload_n 0, 1) := by decide +kernel
theorem dX3_travelsOf_14 : decode cX3_travelsOf 14 = .ok (.iload_n 1, 1) := by decide +kernel
theorem dX3_travelsOf_15 : decode cX3_travelsOf 15 = .ok (.iload_n 3, 1) := by decide +kernel
theorem dX3_travelsOf_16 : decode cX3_travelsOf 16 = .ok (.invokevirtual 92, 3) := by decide +kernel
theorem dX3_travelsOf_19 : decode cX3_travelsOf 19 = .ok (.aload_n 0, 1) := by decide +kernel
theorem dX3_travelsOf_20 : decode cX3_travelsOf 20 = .ok (.iload_n 1, 1) := by decide +kernel
theorem dX3_travelsOf_21 : decode cX3_travelsOf 21 = .ok (.iload_n 3, 1) := by decide +kernel
theorem dX3_travelsOf_22 : decode cX3_travelsOf 22 = .ok (.iconst 1, 1) := by decide +kernel
theorem dX3_travelsOf_23 : decode cX3_travelsOf 23 = .ok (.iadd, 1) := by decide +kernel
theorem dX3_travelsOf_24 : decode cX3_travelsOf 24 = .ok (.invokevirtual 92, 3) := by decide +kernel
theorem dX3_travelsOf_27 : decode cX3_travelsOf 27 = .ok (.if_icmp .eq 6, 3) := by decide +kernel
theorem dX3_travelsOf_30 : decode cX3_travelsOf 30 = .ok (.iinc 2 1, 3) := by decide +kernel
theorem dX3_travelsOf_33 : decode cX3_travelsOf 33 = .ok (.iinc 3 1, 3) := by decide +kernel
theorem dX3_travelsOf_36 : decode cX3_travelsOf 36 = .ok (.goto (-32), 3) := by decide +kernel
theorem dX3_travelsOf_39 : decode cX3_travelsOf 39 = .ok (.iload_n 2, 1) := by decide +kernel
theorem dX3_travelsOf_40 : decode cX3_travelsOf 40 = .ok (.ireturn, 1) := by decide +kernel
theorem dX3_stuckOf_0 : decode cX3_stuckOf 0 = .ok (.iconst 0, 1) := by decide +kernel
theorem dX3_stuckOf_1 : decode cX3_stuckOf 1 = .ok (.istore_n 3, 1) := by decide +kernel
theorem dX3_stuckOf_2 : decode cX3_stuckOf 2 = .ok (.iconst 0, 1) := by decide +kernel
theorem dX3_stuckOf_3 : decode cX3_stuckOf 3 = .ok (.istore 4, 2) := by decide +kernel
theorem dX3_stuckOf_5 : decode cX3_stuckOf 5 = .ok (.iload 4, 2) := by decide +kernel
theorem dX3_stuckOf_7 : decode cX3_stuckOf 7 = .ok (.iconst 1, 1) := by decide +kernel
theorem dX3_stuckOf_8 : decode cX3_stuckOf 8 = .ok (.iadd, 1) := by decide +kernel
theorem dX3_stuckOf_9 : decode cX3_stuckOf 9 = .ok (.sipush 240, 3) := by decide +kernel
theorem dX3_stuckOf_12 : decode cX3_stuckOf 12 = .ok (.if_icmp .ge 42, 3) := by decide +kernel
theorem dX3_stuckOf_15 : decode cX3_stuckOf 15 = .ok (.aload_n 0, 1) := by decide +kernel
theorem dX3_stuckOf_16 : decode cX3_stuckOf 16 = .ok (.iload_n 2, 1) := by decide +kernel
theorem dX3_stuckOf_17 : decode cX3_stuckOf 17 = .ok (.iload 4, 2) := by decide +kernel
theorem dX3_stuckOf_19 : decode cX3_stuckOf 19 = .ok (.invokevirtual 92, 3) := by decide +kernel
theorem dX3_stuckOf_22 : decode cX3_stuckOf 22 = .ok (.aload_n 0, 1) := by decide +kernel
theorem dX3_stuckOf_23 : decode cX3_stuckOf 23 = .ok (.iload_n 2, 1) := by decide +kernel
theorem dX3_stuckOf_24 : decode cX3_stuckOf 24 = .ok (.iload 4, 2) := by decide +kernel
theorem dX3_stuckOf_26 : decode cX3_stuckOf 26 = .ok (.iconst 1, 1) := by decide +kernel
theorem dX3_stuckOf_27 : decode cX3_stuckOf 27 = .ok (.iadd, 1) := by decide +kernel
theorem dX3_stuckOf_28 : decode cX3_stuckOf 28 = .ok (.invokevirtual 92, 3) := by decide +kernel
theorem dX3_stuckOf_31 : decode cX3_stuckOf 31 = .ok (.if_icmp .ne 17, 3) := by decide +kernel
theorem dX3_stuckOf_34 : decode cX3_stuckOf 34 = .ok (.aload_n 1, 1) := by decide +kernel
theorem dX3_stuckOf_35 : decode cX3_stuckOf 35 = .ok (.iload_n 2, 1) := by decide +kernel
theorem dX3_stuckOf_36 : decode cX3_stuckOf 36 = .ok (.iload 4, 2) := by decide +kernel
theorem dX3_stuckOf_38 : decode cX3_stuckOf 38 = .ok (.invokevirtual 41, 3) := by decide +kernel
theorem dX3_stuckOf_41 : decode cX3_stuckOf 41 = .ok (.iconst 4, 1) := by decide +kernel
theorem dX3_stuckOf_42 : decode cX3_stuckOf 42 = .ok (.if_icmp .eq 6, 3) := by decide +kernel
theorem dX3_stuckOf_45 : decode cX3_stuckOf 45 = .ok (.iinc 3 1, 3) := by decide +kernel
theorem dX3_stuckOf_48 : decode cX3_stuckOf 48 = .ok (.iinc 4 1, 3) := by decide +kernel
theorem dX3_stuckOf_51 : decode cX3_stuckOf 51 = .ok (.goto (-46), 3) := by decide +kernel
theorem dX3_stuckOf_54 : decode cX3_stuckOf 54 = .ok (.iload_n 3, 1) := by decide +kernel
theorem dX3_stuckOf_55 : decode cX3_stuckOf 55 = .ok (.ireturn, 1) := by decide +kernel
theorem dX3_showsOf_0 : decode cX3_showsOf 0 = .ok (.iconst 0, 1) := by decide +kernel
theorem dX3_showsOf_1 : decode cX3_showsOf 1 = .ok (.istore_n 3, 1) := by decide +kernel
theorem dX3_showsOf_2 : decode cX3_showsOf 2 = .ok (.iconst 0, 1) := by decide +kernel
theorem dX3_showsOf_3 : decode cX3_showsOf 3 = .ok (.istore 4, 2) := by decide +kernel
theorem dX3_showsOf_5 : decode cX3_showsOf 5 = .ok (.iload 4, 2) := by decide +kernel
theorem dX3_showsOf_7 : decode cX3_showsOf 7 = .ok (.iload_n 1, 1) := by decide +kernel
theorem dX3_showsOf_8 : decode cX3_showsOf 8 = .ok (.if_icmp .ge 47, 3) := by decide +kernel
theorem dX3_showsOf_11 : decode cX3_showsOf 11 = .ok (.iconst 0, 1) := by decide +kernel
theorem dX3_showsOf_12 : decode cX3_showsOf 12 = .ok (.istore 5, 2) := by decide +kernel
theorem dX3_showsOf_14 : decode cX3_showsOf 14 = .ok (.iload 5, 2) := by decide +kernel
theorem dX3_showsOf_16 : decode cX3_showsOf 16 = .ok (.sipush 240, 3) := by decide +kernel
theorem dX3_showsOf_19 : decode cX3_showsOf 19 = .ok (.if_icmp .ge 30, 3) := by decide +kernel
theorem dX3_showsOf_22 : decode cX3_showsOf 22 = .ok (.iload_n 3, 1) := by decide +kernel
theorem dX3_showsOf_23 : decode cX3_showsOf 23 = .ok (.aload_n 0, 1) := by decide +kernel
theorem dX3_showsOf_24 : decode cX3_showsOf 24 = .ok (.getfield 15, 3) := by decide +kernel
theorem dX3_showsOf_27 : decode cX3_showsOf 27 = .ok (.iload 4, 2) := by decide +kernel
theorem dX3_showsOf_29 : decode cX3_showsOf 29 = .ok (.sipush 240, 3) := by decide +kernel
theorem dX3_showsOf_32 : decode cX3_showsOf 32 = .ok (.imul, 1) := by decide +kernel
theorem dX3_showsOf_33 : decode cX3_showsOf 33 = .ok (.iload 5, 2) := by decide +kernel
theorem dX3_showsOf_35 : decode cX3_showsOf 35 = .ok (.iadd, 1) := by decide +kernel
theorem dX3_showsOf_36 : decode cX3_showsOf 36 = .ok (.iaload, 1) := by decide +kernel
theorem dX3_showsOf_37 : decode cX3_showsOf 37 = .ok (.iload_n 2, 1) := by decide +kernel
theorem dX3_showsOf_38 : decode cX3_showsOf 38 = .ok (.ishr, 1) := by decide +kernel
theorem dX3_showsOf_39 : decode cX3_showsOf 39 = .ok (.iconst 1, 1) := by decide +kernel
theorem dX3_showsOf_40 : decode cX3_showsOf 40 = .ok (.iand, 1) := by decide +kernel
theorem dX3_showsOf_41 : decode cX3_showsOf 41 = .ok (.iadd, 1) := by decide +kernel
theorem dX3_showsOf_42 : decode cX3_showsOf 42 = .ok (.istore_n 3, 1) := by decide +kernel
theorem dX3_showsOf_43 : decode cX3_showsOf 43 = .ok (.iinc 5 1, 3) := by decide +kernel
theorem dX3_showsOf_46 : decode cX3_showsOf 46 = .ok (.goto (-32), 3) := by decide +kernel
theorem dX3_showsOf_49 : decode cX3_showsOf 49 = .ok (.iinc 4 1, 3) := by decide +kernel
theorem dX3_showsOf_52 : decode cX3_showsOf 52 = .ok (.goto (-47), 3) := by decide +kernel
theorem dX3_showsOf_55 : decode cX3_showsOf 55 = .ok (.iload_n 3, 1) := by decide +kernel
theorem dX3_showsOf_56 : decode cX3_showsOf 56 = .ok (.ireturn, 1) := by decide +kernel
theorem dX4_init_0 : decode cX4_init 0 = .ok (.aload_n 0, 1) := by decide +kernel
theorem dX4_init_1 : decode cX4_init 1 = .ok (.invokespecial 3, 3) := by decide +kernel
theorem dX4_init_4 : decode cX4_init 4 = .ok (.aload_n 0, 1) := by decide +kernel
theorem dX4_init_5 : decode cX4_init 5 = .ok (.sipush 700, 3) := by decide +kernel
theorem dX4_init_8 : decode cX4_init 8 = .ok (.newarray .int, 2) := by decide +kernel
theorem dX4_init_10 : decode cX4_init 10 = .ok (.putfield 9, 3) := by decide +kernel
theorem dX4_init_13 : decode cX4_init 13 = .ok (.aload_n 0, 1) := by decide +kernel
theorem dX4_init_14 : decode cX4_init 14 = .ok (.iconst 3, 1) := by decide +kernel
theorem dX4_init_15 : decode cX4_init 15 = .ok (.newarray .int, 2) := by decide +kernel
theorem dX4_init_17 : decode cX4_init 17 = .ok (.putfield 15, 3) := by decide +kernel
theorem dX4_init_20 : decode cX4_init 20 = .ok (.aload_n 0, 1) := by decide +kernel
theorem dX4_init_21 : decode cX4_init 21 = .ok (.bipush 40, 2) := by decide +kernel
theorem dX4_init_23 : decode cX4_init 23 = .ok (.newarray .int, 2) := by decide +kernel
theorem dX4_init_25 : decode cX4_init 25 = .ok (.putfield 18, 3) := by decide +kernel
theorem dX4_init_28 : decode cX4_init 28 = .ok (.aload_n 0, 1) := by decide +kernel
theorem dX4_init_29 : decode cX4_init 29 = .ok (.iconst 0, 1) := by decide +kernel
theorem dX4_init_30 : decode cX4_init 30 = .ok (.putfield 21, 3) := by decide +kernel
theorem dX4_init_33 : decode cX4_init 33 = .ok (.aload_n 0, 1) := by decide +kernel
theorem dX4_init_34 : decode cX4_init 34 = .ok (.iconst 0, 1) := by decide +kernel
theorem dX4_init_35 : decode cX4_init 35 = .ok (.putfield 25, 3) := by decide +kernel
theorem dX4_init_38 : decode cX4_init 38 = .ok (.return_, 1) := by decide +kernel
theorem dX4_clear_0 : decode cX4_clear 0 = .ok (.aload_n 0, 1) := by decide +kernel
theorem dX4_clear_1 : decode cX4_clear 1 = .ok (.iconst 0, 1) := by decide +kernel
theorem dX4_clear_2 : decode cX4_clear 2 = .ok (.putfield 21, 3) := by decide +kernel
theorem dX4_clear_5 : decode cX4_clear 5 = .ok (.aload_n 0, 1) := by decide +kernel
theorem dX4_clear_6 : decode cX4_clear 6 = .ok (.iconst 0, 1) := by decide +kernel
theorem dX4_clear_7 : decode cX4_clear 7 = .ok (.putfield 25, 3) := by decide +kernel
theorem dX4_clear_10 : decode cX4_clear 10 = .ok (.return_, 1) := by decide +kernel
theorem dX4_put_0 : decode cX4_put 0 = .ok (.aload_n 0, 1) := by decide +kernel
theorem dX4_put_1 : decode cX4_put 1 = .ok (.getfield 21, 3) := by decide +kernel
theorem dX4_put_4 : decode cX4_put 4 = .ok (.sipush 700, 3) := by decide +kernel
theorem dX4_put_7 : decode cX4_put 7 = .ok (.if_icmp .ge 23, 3) := by decide +kernel
theorem dX4_put_10 : decode cX4_put 10 = .ok (.aload_n 0, 1) := by decide +kernel
theorem dX4_put_11 : decode cX4_put 11 = .ok (.getfield 9, 3) := by decide +kernel
theorem dX4_put_14 : decode cX4_put 14 = .ok (.aload_n 0, 1) := by decide +kernel
theorem dX4_put_15 : decode cX4_put 15 = .ok (.getfield 21, 3) := by decide +kernel
theorem dX4_put_18 : decode cX4_put 18 = .ok (.iload_n 1, 1) := by decide +kernel
theorem dX4_put_19 : decode cX4_put 19 = .ok (.iastore, 1) := by decide +kernel
theorem dX4_put_20 : decode cX4_put 20 = .ok (.aload_n 0, 1) := by decide +kernel
theorem dX4_put_21 : decode cX4_put 21 = .ok (.dup, 1) := by decide +kernel
theorem dX4_put_22 : decode cX4_put 22 = .ok (.getfield 21, 3) := by decide +kernel
theorem dX4_put_25 : decode cX4_put 25 = .ok (.iconst 1, 1) := by decide +kernel
theorem dX4_put_26 : decode cX4_put 26 = .ok (.iadd, 1) := by decide +kernel
theorem dX4_put_27 : decode cX4_put 27 = .ok (.putfield 21, 3) := by decide +kernel
theorem dX4_put_30 : decode cX4_put 30 = .ok (.return_, 1) := by decide +kernel
theorem dX4_close_0 : decode cX4_close 0 = .ok (.aload_n 0, 1) := by decide +kernel
theorem dX4_close_1 : decode cX4_close 1 = .ok (.getfield 25, 3) := by decide +kernel
theorem dX4_close_4 : decode cX4_close 4 = .ok (.iconst 3, 1) := by decide +kernel
theorem dX4_close_5 : decode cX4_close 5 = .ok (.if_icmp .ge 26, 3) := by decide +kernel
theorem dX4_close_8 : decode cX4_close 8 = .ok (.aload_n 0, 1) := by decide +kernel
theorem dX4_close_9 : decode cX4_close 9 = .ok (.getfield 15, 3) := by decide +kernel
theorem dX4_close_12 : decode cX4_close 12 = .ok (.aload_n 0, 1) := by decide +kernel
theorem dX4_close_13 : decode cX4_close 13 = .ok (.getfield 25, 3) := by decide +kernel
theorem dX4_close_16 : decode cX4_close 16 = .ok (.aload_n 0, 1) := by decide +kernel
theorem dX4_close_17 : decode cX4_close 17 = .ok (.getfield 21, 3) := by decide +kernel
theorem dX4_close_20 : decode cX4_close 20 = .ok (.iastore, 1) := by decide +kernel
theorem dX4_close_21 : decode cX4_close 21 = .ok (.aload_n 0, 1) := by decide +kernel
theorem dX4_close_22 : decode cX4_close 22 = .ok (.dup, 1) := by decide +kernel
theorem dX4_close_23 : decode cX4_close 23 = .ok (.getfield 25, 3) := by decide +kernel
theorem dX4_close_26 : decode cX4_close 26 = .ok (.iconst 1, 1) := by decide +kernel
theorem dX4_close_27 : decode cX4_close 27 = .ok (.iadd, 1) := by decide +kernel
theorem dX4_close_28 : decode cX4_close 28 = .ok (.putfield 25, 3) := by decide +kernel
theorem dX4_close_31 : decode cX4_close 31 = .ok (.return_, 1) := by decide +kernel
theorem dX4_give_0 : decode cX4_give 0 = .ok (.iload_n 1, 1) := by decide +kernel
theorem dX4_give_1 : decode cX4_give 1 = .ok (.ifCond .lt 11, 3) := by decide +kernel
theorem dX4_give_4 : decode cX4_give 4 = .ok (.iload_n 1, 1) := by decide +kernel
theorem dX4_give_5 : decode cX4_give 5 = .ok (.aload_n 0, 1) := by decide +kernel
theorem dX4_give_6 : decode cX4_give 6 = .ok (.getfield 25, 3) := by decide +kernel
theorem dX4_give_9 : decode cX4_give 9 = .ok (.if_icmp .lt 5, 3) := by decide +kernel
theorem dX4_give_12 : decode cX4_give 12 = .ok (.iconst 0, 1) := by decide +kernel
theorem dX4_give_13 : decode cX4_give 13 = .ok (.ireturn, 1) := by decide +kernel
theorem dX4_give_14 : decode cX4_give 14 = .ok (.iconst 0, 1) := by decide +kernel
theorem dX4_give_15 : decode cX4_give 15 = .ok (.istore_n 3, 1) := by decide +kernel
theorem dX4_give_16 : decode cX4_give 16 = .ok (.iload_n 1, 1) := by decide +kernel
theorem dX4_give_17 : decode cX4_give 17 = .ok (.ifCond .ne 7, 3) := by decide +kernel
theorem dX4_give_20 : decode cX4_give 20 = .ok (.iconst 0, 1) := by decide +kernel
theorem dX4_give_21 : decode cX4_give 21 = .ok (.goto 11, 3) := by decide +kernel
theorem dX4_give_24 : decode cX4_give 24 = .ok (.aload_n 0, 1) := by decide +kernel
theorem dX4_give_25 : decode cX4_give 25 = .ok (.getfield 15, 3) := by decide +kernel
theorem dX4_give_28 : decode cX4_give 28 = .ok (.iload_n 1, 1) := by decide +kernel
theorem dX4_give_29 : decode cX4_give 29 = .ok (.iconst 1, 1) := by decide +kernel
theorem dX4_give_30 : decode cX4_give 30 = .ok (.isub, 1) := by decide +kernel
theorem dX4_give_31 : decode cX4_give 31 = .ok (.iaload, 1) := by decide +kernel
theorem dX4_give_32 : decode cX4_give 32 = .ok (.istore 4, 2) := by decide +kernel
theorem dX4_give_34 : decode cX4_give 34 = .ok (.iload 4, 2) := by decide +kernel
theorem dX4_give_36 : decode cX4_give 36 = .ok (.aload_n 0, 1) := by decide +kernel
theorem dX4_give_37 : decode cX4_give 37 = .ok (.getfield 15, 3) := by decide +kernel
theorem dX4_give_40 : decode cX4_give 40 = .ok (.iload_n 1, 1) := by decide +kernel
theorem dX4_give_41 : decode cX4_give 41 = .ok (.iaload, 1) := by decide +kernel
theorem dX4_give_42 : decode cX4_give 42 = .ok (.if_icmp .ge 136, 3) := by decide +kernel
theorem dX4_give_45 : decode cX4_give 45 = .ok (.aload_n 0, 1) := by decide +kernel
theorem dX4_give_46 : decode cX4_give 46 = .ok (.getfield 9, 3) := by decide +kernel
theorem dX4_give_49 : decode cX4_give 49 = .ok (.iload 4, 2) := by decide +kernel
theorem dX4_give_51 : decode cX4_give 51 = .ok (.iaload, 1) := by decide +kernel
theorem dX4_give_52 : decode cX4_give 52 = .ok (.istore 5, 2) := by decide +kernel
theorem dX4_give_54 : decode cX4_give 54 = .ok (.iload 5, 2) := by decide +kernel
theorem dX4_give_56 : decode cX4_give 56 = .ok (.bipush (-6), 2) := by decide +kernel
theorem dX4_give_58 : decode cX4_give 58 = .ok (.if_icmp .lt 40, 3) := by decide +kernel
theorem dX4_give_61 : decode cX4_give 61 = .ok (.iload_n 3, 1) := by decide +kernel
theorem dX4_give_62 : decode cX4_give 62 = .ok (.aload_n 0, 1) := by decide +kernel
theorem dX4_give_63 : decode cX4_give 63 = .ok (.getfield 18, 3) := by decide +kernel
theorem dX4_give_66 : decode cX4_give 66 = .ok (.arraylength, 1) := by decide +kernel
theorem dX4_give_67 : decode cX4_give 67 = .ok (.if_icmp .ge 105, 3) := by decide +kernel
theorem dX4_give_70 : decode cX4_give 70 = .ok (.aload_n 0, 1) := by decide +kernel
theorem dX4_give_71 : decode cX4_give 71 = .ok (.getfield 18, 3) := by decide +kernel
theorem dX4_give_74 : decode cX4_give 74 = .ok (.iload_n 3, 1) := by decide +kernel
theorem dX4_give_75 : decode cX4_give 75 = .ok (.iload 5, 2) := by decide +kernel
theorem dX4_give_77 : decode cX4_give 77 = .ok (.ifCond .lt 8, 3) := by decide +kernel
theorem dX4_give_80 : decode cX4_give 80 = .ok (.iload 5, 2) := by decide +kernel
theorem dX4_give_82 : decode cX4_give 82 = .ok (.goto 9, 3) := by decide +kernel
theorem dX4_give_85 : decode cX4_give 85 = .ok (.aload_n 2, 1) := by decide +kernel
theorem dX4_give_86 : decode cX4_give 86 = .ok (.iconst (-1), 1) := by decide +kernel
theorem dX4_give_87 : decode cX4_give 87 = .ok (.iload 5, 2) := by decide +kernel
theorem dX4_give_89 : decode cX4_give 89 = .ok (.isub, 1) := by decide +kernel
theorem dX4_give_90 : decode cX4_give 90 = .ok (.iaload, 1) := by decide +kernel
theorem dX4_give_91 : decode cX4_give 91 = .ok (.iastore, 1) := by decide +kernel
theorem dX4_give_92 : decode cX4_give 92 = .ok (.iinc 3 1, 3) := by decide +kernel
theorem dX4_give_95 : decode cX4_give 95 = .ok (.goto 77, 3) := by decide +kernel
theorem dX4_give_98 : decode cX4_give 98 = .ok (.iload 5, 2) := by decide +kernel
theorem dX4_give_100 : decode cX4_give 100 = .ok (.bipush (-7), 2) := by decide +kernel
theorem dX4_give_102 : decode cX4_give 102 = .ok (.if_icmp .ne 35, 3) := by decide +kernel
theorem dX4_give_105 : decode cX4_give 105 = .ok (.iload_n 3, 1) := by decide +kernel
theorem dX4_give_106 : decode cX4_give 106 = .ok (.iconst 1, 1) := by decide +kernel
theorem dX4_give_107 : decode cX4_give 107 = .ok (.if_icmp .lt 65, 3) := by decide +kernel
theorem dX4_give_110 : decode cX4_give 110 = .ok (.aload_n 0, 1) := by decide +kernel
theorem dX4_give_111 : decode cX4_give 111 = .ok (.getfield 18, 3) := by decide +kernel
theorem dX4_give_114 : decode cX4_give 114 = .ok (.iload_n 3, 1) := by decide +kernel
theorem dX4_give_115 : decode cX4_give 115 = .ok (.iconst 1, 1) := by decide +kernel
theorem dX4_give_116 : decode cX4_give 116 = .ok (.isub, 1) := by decide +kernel
theorem dX4_give_117 : decode cX4_give 117 = .ok (.aload_n 0, 1) := by decide +kernel
theorem dX4_give_118 : decode cX4_give 118 = .ok (.getfield 18, 3) := by decide +kernel
theorem dX4_give_121 : decode cX4_give 121 = .ok (.iload_n 3, 1) := by decide +kernel
theorem dX4_give_122 : decode cX4_give 122 = .ok (.iconst 1, 1) := by decide +kernel
theorem dX4_give_123 : decode cX4_give 123 = .ok (.isub, 1) := by decide +kernel
theorem dX4_give_124 : decode cX4_give 124 = .ok (.iaload, 1) := by decide +kernel
theorem dX4_give_125 : decode cX4_give 125 = .ok (.ifCond .ne 7, 3) := by decide +kernel
theorem dX4_give_128 : decode cX4_give 128 = .ok (.iconst 1, 1) := by decide +kernel
theorem dX4_give_129 : decode cX4_give 129 = .ok (.goto 4, 3) := by decide +kernel
theorem dX4_give_132 : decode cX4_give 132 = .ok (.iconst 0, 1) := by decide +kernel
theorem dX4_give_133 : decode cX4_give 133 = .ok (.iastore, 1) := by decide +kernel
theorem dX4_give_134 : decode cX4_give 134 = .ok (.goto 38, 3) := by decide +kernel
theorem dX4_give_137 : decode cX4_give 137 = .ok (.iload_n 3, 1) := by decide +kernel
theorem dX4_give_138 : decode cX4_give 138 = .ok (.iconst 2, 1) := by decide +kernel
theorem dX4_give_139 : decode cX4_give 139 = .ok (.if_icmp .lt 33, 3) := by decide +kernel
theorem dX4_give_142 : decode cX4_give 142 = .ok (.iinc 3 (-1), 3) := by decide +kernel
theorem dX4_give_145 : decode cX4_give 145 = .ok (.aload_n 0, 1) := by decide +kernel
theorem dX4_give_146 : decode cX4_give 146 = .ok (.getfield 18, 3) := by decide +kernel
theorem dX4_give_149 : decode cX4_give 149 = .ok (.iload_n 3, 1) := by decide +kernel
theorem dX4_give_150 : decode cX4_give 150 = .ok (.iconst 1, 1) := by decide +kernel
theorem dX4_give_151 : decode cX4_give 151 = .ok (.isub, 1) := by decide +kernel
theorem dX4_give_152 : decode cX4_give 152 = .ok (.iload 5, 2) := by decide +kernel
theorem dX4_give_154 : decode cX4_give 154 = .ok (.aload_n 0, 1) := by decide +kernel
theorem dX4_give_155 : decode cX4_give 155 = .ok (.getfield 18, 3) := by decide +kernel
theorem dX4_give_158 : decode cX4_give 158 = .ok (.iload_n 3, 1) := by decide +kernel
theorem dX4_give_159 : decode cX4_give 159 = .ok (.iconst 1, 1) := by decide +kernel
theorem dX4_give_160 : decode cX4_give 160 = .ok (.isub, 1) := by decide +kernel
theorem dX4_give_161 : decode cX4_give 161 = .ok (.iaload, 1) := by decide +kernel
theorem dX4_give_162 : decode cX4_give 162 = .ok (.aload_n 0, 1) := by decide +kernel
theorem dX4_give_163 : decode cX4_give 163 = .ok (.getfield 18, 3) := by decide +kernel
theorem dX4_give_166 : decode cX4_give 166 = .ok (.iload_n 3, 1) := by decide +kernel
theorem dX4_give_167 : decode cX4_give 167 = .ok (.iaload, 1) := by decide +kernel
theorem dX4_give_168 : decode cX4_give 168 = .ok (.invokestatic 28, 3) := by decide +kernel
theorem dX4_give_171 : decode cX4_give 171 = .ok (.iastore, 1) := by decide +kernel
theorem dX4_give_172 : decode cX4_give 172 = .ok (.iinc 4 1, 3) := by decide +kernel
theorem dX4_give_175 : decode cX4_give 175 = .ok (.goto (-141), 3) := by decide +kernel
theorem dX4_give_178 : decode cX4_give 178 = .ok (.aload_n 0, 1) := by decide +kernel
theorem dX4_give_179 : decode cX4_give 179 = .ok (.getfield 18, 3) := by decide +kernel
theorem dX4_give_182 : decode cX4_give 182 = .ok (.iconst 0, 1) := by decide +kernel
theorem dX4_give_183 : decode cX4_give 183 = .ok (.iaload, 1) := by decide +kernel
theorem dX4_give_184 : decode cX4_give 184 = .ok (.ireturn, 1) := by decide +kernel
theorem dX4_join_0 : decode cX4_join 0 = .ok (.iload_n 0, 1) := by decide +kernel
theorem dX4_join_1 : decode cX4_join 1 = .ok (.tableswitch 105 (-14) (-8) #[101, 97, 93, 82, 71, 57, 43], 43) := by decide +kernel
theorem dX4_join_44 : decode cX4_join 44 = .ok (.iload_n 1, 1) := by decide +kernel
theorem dX4_join_45 : decode cX4_join 45 = .ok (.ifCond .ne 7, 3) := by decide +kernel
theorem dX4_join_48 : decode cX4_join 48 = .ok (.iload_n 2, 1) := by decide +kernel
theorem dX4_join_49 : decode cX4_join 49 = .ok (.ifCond .eq 7, 3) := by decide +kernel
theorem dX4_join_52 : decode cX4_join 52 = .ok (.iconst 1, 1) := by decide +kernel
theorem dX4_join_53 : decode cX4_join 53 = .ok (.goto 4, 3) := by decide +kernel
theorem dX4_join_56 : decode cX4_join 56 = .ok (.iconst 0, 1) := by decide +kernel
theorem dX4_join_57 : decode cX4_join 57 = .ok (.ireturn, 1) := by decide +kernel
theorem dX4_join_58 : decode cX4_join 58 = .ok (.iload_n 1, 1) := by decide +kernel
theorem dX4_join_59 : decode cX4_join 59 = .ok (.ifCond .eq 11, 3) := by decide +kernel
theorem dX4_join_62 : decode cX4_join 62 = .ok (.iload_n 2, 1) := by decide +kernel
theorem dX4_join_63 : decode cX4_join 63 = .ok (.ifCond .eq 7, 3) := by decide +kernel
theorem dX4_join_66 : decode cX4_join 66 = .ok (.iconst 1, 1) := by decide +kernel
theorem dX4_join_67 : decode cX4_join 67 = .ok (.goto 4, 3) := by decide +kernel
theorem dX4_join_70 : decode cX4_join 70 = .ok (.iconst 0, 1) := by decide +kernel
theorem dX4_join_71 : decode cX4_join 71 = .ok (.ireturn, 1) := by decide +kernel
theorem dX4_join_72 : decode cX4_join 72 = .ok (.iload_n 1, 1) := by decide +kernel
theorem dX4_join_73 : decode cX4_join 73 = .ok (.iload_n 2, 1) := by decide +kernel
theorem dX4_join_74 : decode cX4_join 74 = .ok (.if_icmp .ge 7, 3) := by decide +kernel
theorem dX4_join_77 : decode cX4_join 77 = .ok (.iconst 1, 1) := by decide +kernel
theorem dX4_join_78 : decode cX4_join 78 = .ok (.goto 4, 3) := by decide +kernel
theorem dX4_join_81 : decode cX4_join 81 = .ok (.iconst 0, 1) := by decide +kernel
theorem dX4_join_82 : decode cX4_join 82 = .ok (.ireturn, 1) := by decide +kernel
theorem dX4_join_83 : decode cX4_join 83 = .ok (.iload_n 1, 1) := by decide +kernel
theorem dX4_join_84 : decode cX4_join 84 = .ok (.iload_n 2, 1) := by decide +kernel
theorem dX4_join_85 : decode cX4_join 85 = .ok (.if_icmp .ne 7, 3) := by decide +kernel
theorem dX4_join_88 : decode cX4_join 88 = .ok (.iconst 1, 1) := by decide +kernel
theorem dX4_join_89 : decode cX4_join 89 = .ok (.goto 4, 3) := by decide +kernel
theorem dX4_join_92 : decode cX4_join 92 = .ok (.iconst 0, 1) := by decide +kernel
theorem dX4_join_93 : decode cX4_join 93 = .ok (.ireturn, 1) := by decide +kernel
theorem dX4_join_94 : decode cX4_join 94 = .ok (.iload_n 1, 1) := by decide +kernel
theorem dX4_join_95 : decode cX4_join 95 = .ok (.iload_n 2, 1) := by decide +kernel
theorem dX4_join_96 : decode cX4_join 96 = .ok (.iadd, 1) := by decide +kernel
theorem dX4_join_97 : decode cX4_join 97 = .ok (.ireturn, 1) := by decide +kernel
theorem dX4_join_98 : decode cX4_join 98 = .ok (.iload_n 1, 1) := by decide +kernel
theorem dX4_join_99 : decode cX4_join 99 = .ok (.iload_n 2, 1) := by decide +kernel
theorem dX4_join_100 : decode cX4_join 100 = .ok (.isub, 1) := by decide +kernel
theorem dX4_join_101 : decode cX4_join 101 = .ok (.ireturn, 1) := by decide +kernel
theorem dX4_join_102 : decode cX4_join 102 = .ok (.iload_n 1, 1) := by decide +kernel
theorem dX4_join_103 : decode cX4_join 103 = .ok (.iload_n 2, 1) := by decide +kernel
theorem dX4_join_104 : decode cX4_join 104 = .ok (.imul, 1) := by decide +kernel
theorem dX4_join_105 : decode cX4_join 105 = .ok (.ireturn, 1) := by decide +kernel
theorem dX4_join_106 : decode cX4_join 106 = .ok (.iload_n 1, 1) := by decide +kernel
theorem dX4_join_107 : decode cX4_join 107 = .ok (.iload_n 2, 1) := by decide +kernel
theorem dX4_join_108 : decode cX4_join 108 = .ok (.invokestatic 32, 3) := by decide +kernel
theorem dX4_join_111 : decode cX4_join 111 = .ok (.ireturn, 1) := by decide +kernel
theorem dX5_init_0 : decode cX5_init 0 = .ok (.aload_n 0, 1) := by decide +kernel
theorem dX5_init_1 : decode cX5_init 1 = .ok (.invokespecial 3, 3) := by decide +kernel
theorem dX5_init_4 : decode cX5_init 4 = .ok (.aload_n 0, 1) := by decide +kernel
theorem dX5_init_5 : decode cX5_init 5 = .ok (.bipush 8, 2) := by decide +kernel
theorem dX5_init_7 : decode cX5_init 7 = .ok (.newarray .int, 2) := by decide +kernel
theorem dX5_init_9 : decode cX5_init 9 = .ok (.putfield 9, 3) := by decide +kernel
theorem dX5_init_12 : decode cX5_init 12 = .ok (.aload_n 0, 1) := by decide +kernel
theorem dX5_init_13 : decode cX5_init 13 = .ok (.bipush 8, 2) := by decide +kernel
theorem dX5_init_15 : decode cX5_init 15 = .ok (.newarray .int, 2) := by decide +kernel
theorem dX5_init_17 : decode cX5_init 17 = .ok (.putfield 15, 3) := by decide +kernel
theorem dX5_init_20 : decode cX5_init 20 = .ok (.aload_n 0, 1) := by decide +kernel
theorem dX5_init_21 : decode cX5_init 21 = .ok (.bipush 8, 2) := by decide +kernel
theorem dX5_init_23 : decode cX5_init 23 = .ok (.newarray .int, 2) := by decide +kernel
theorem dX5_init_25 : decode cX5_init 25 = .ok (.putfield 18, 3) := by decide +kernel
theorem dX5_init_28 : decode cX5_init 28 = .ok (.aload_n 0, 1) := by decide +kernel
theorem dX5_init_29 : decode cX5_init 29 = .ok (.bipush 8, 2) := by decide +kernel
theorem dX5_init_31 : decode cX5_init 31 = .ok (.newarray .int, 2) := by decide +kernel
theorem dX5_init_33 : decode cX5_init 33 = .ok (.putfield 21, 3) := by decide +kernel
theorem dX5_init_36 : decode cX5_init 36 = .ok (.aload_n 0, 1) := by decide +kernel
theorem dX5_init_37 : decode cX5_init 37 = .ok (.iconst 0, 1) := by decide +kernel
theorem dX5_init_38 : decode cX5_init 38 = .ok (.putfield 24, 3) := by decide +kernel
theorem dX5_init_41 : decode cX5_init 41 = .ok (.return_, 1) := by decide +kernel
theorem dX5_enter_0 : decode cX5_enter 0 = .ok (.aload_n 0, 1) := by decide +kernel
theorem dX5_enter_1 : decode cX5_enter 1 = .ok (.getfield 24, 3) := by decide +kernel
theorem dX5_enter_4 : decode cX5_enter 4 = .ok (.bipush 8, 2) := by decide +kernel
theorem dX5_enter_6 : decode cX5_enter 6 = .ok (.if_icmp .ge 62, 3) := by decide +kernel
theorem dX5_enter_9 : decode cX5_enter 9 = .ok (.aload_n 0, 1) := by decide +kernel
theorem dX5_enter_10 : decode cX5_enter 10 = .ok (.getfield 9, 3) := by decide +kernel
theorem dX5_enter_13 : decode cX5_enter 13 = .ok (.aload_n 0, 1) := by decide +kernel
theorem dX5_enter_14 : decode cX5_enter 14 = .ok (.getfield 24, 3) := by decide +kernel
theorem dX5_enter_17 : decode cX5_enter 17 = .ok (.iload_n 1, 1) := by decide +kernel
theorem dX5_enter_18 : decode cX5_enter 18 = .ok (.iastore, 1) := by decide +kernel
theorem dX5_enter_19 : decode cX5_enter 19 = .ok (.aload_n 0, 1) := by decide +kernel
theorem dX5_enter_20 : decode cX5_enter 20 = .ok (.getfield 15, 3) := by decide +kernel
theorem dX5_enter_23 : decode cX5_enter 23 = .ok (.aload_n 0, 1) := by decide +kernel
theorem dX5_enter_24 : decode cX5_enter 24 = .ok (.getfield 24, 3) := by decide +kernel
theorem dX5_enter_27 : decode cX5_enter 27 = .ok (.iload_n 2, 1) := by decide +kernel
theorem dX5_enter_28 : decode cX5_enter 28 = .ok (.iastore, 1) := by decide +kernel
theorem dX5_enter_29 : decode cX5_enter 29 = .ok (.aload_n 0, 1) := by decide +kernel
theorem dX5_enter_30 : decode cX5_enter 30 = .ok (.getfield 18, 3) := by decide +kernel
theorem dX5_enter_33 : decode cX5_enter 33 = .ok (.aload_n 0, 1) := by decide +kernel
theorem dX5_enter_34 : decode cX5_enter 34 = .ok (.getfield 24, 3) := by decide +kernel
theorem dX5_enter_37 : decode cX5_enter 37 = .ok (.iload_n 3, 1) := by decide +kernel
theorem dX5_enter_38 : decode cX5_enter 38 = .ok (.iastore, 1) := by decide +kernel
theorem dX5_enter_39 : decode cX5_enter 39 = .ok (.aload_n 0, 1) := by decide +kernel
theorem dX5_enter_40 : decode cX5_enter 40 = .ok (.getfield 21, 3) := by decide +kernel
theorem dX5_enter_43 : decode cX5_enter 43 = .ok (.aload_n 0, 1) := by decide +kernel
theorem dX5_enter_44 : decode cX5_enter 44 = .ok (.getfield 24, 3) := by decide +kernel
theorem dX5_enter_47 : decode cX5_enter 47 = .ok (.iload 4, 2) := by decide +kernel
theorem dX5_enter_49 : decode cX5_enter 49 = .ok (.ifCond .eq 7, 3) := by decide +kernel
theorem dX5_enter_52 : decode cX5_enter 52 = .ok (.iconst 1, 1) := by decide +kernel
theorem dX5_enter_53 : decode cX5_enter 53 = .ok (.goto 4, 3) := by decide +kernel
theorem dX5_enter_56 : decode cX5_enter 56 = .ok (.iconst 0, 1) := by decide +kernel
theorem dX5_enter_57 : decode cX5_enter 57 = .ok (.iastore, 1) := by decide +kernel
theorem dX5_enter_58 : decode cX5_enter 58 = .ok (.aload_n 0, 1) := by decide +kernel
theorem dX5_enter_59 : decode cX5_enter 59 = .ok (.dup, 1) := by decide +kernel
theorem dX5_enter_60 : decode cX5_enter 60 = .ok (.getfield 24, 3) := by decide +kernel
theorem dX5_enter_63 : decode cX5_enter 63 = .ok (.iconst 1, 1) := by decide +kernel
theorem dX5_enter_64 : decode cX5_enter 64 = .ok (.iadd, 1) := by decide +kernel
theorem dX5_enter_65 : decode cX5_enter 65 = .ok (.putfield 24, 3) := by decide +kernel
theorem dX5_enter_68 : decode cX5_enter 68 = .ok (.return_, 1) := by decide +kernel
theorem dX5_falseBy_0 : decode cX5_falseBy 0 = .ok (.iconst 0, 1) := by decide +kernel
theorem dX5_falseBy_1 : decode cX5_falseBy 1 = .ok (.istore_n 2, 1) := by decide +kernel
theorem dX5_falseBy_2 : decode cX5_falseBy 2 = .ok (.iconst 0, 1) := by decide +kernel
theorem dX5_falseBy_3 : decode cX5_falseBy 3 = .ok (.istore_n 3, 1) := by decide +kernel
theorem dX5_falseBy_4 : decode cX5_falseBy 4 = .ok (.iload_n 3, 1) := by decide +kernel
theorem dX5_falseBy_5 : decode cX5_falseBy 5 = .ok (.aload_n 0, 1) := by decide +kernel
theorem dX5_falseBy_6 : decode cX5_falseBy 6 = .ok (.getfield 24, 3) := by decide +kernel
theorem dX5_falseBy_9 : decode cX5_falseBy 9 = .ok (.if_icmp .ge 46, 3) := by decide +kernel
theorem dX5_falseBy_12 : decode cX5_falseBy 12 = .ok (.aload_n 1, 1) := by decide +kernel
theorem dX5_falseBy_13 : decode cX5_falseBy 13 = .ok (.aload_n 0, 1) := by decide +kernel
theorem dX5_falseBy_14 : decode cX5_falseBy 14 = .ok (.getfield 9, 3) := by decide +kernel
theorem dX5_falseBy_17 : decode cX5_falseBy 17 = .ok (.iload_n 3, 1) := by decide +kernel
theorem dX5_falseBy_18 : decode cX5_falseBy 18 = .ok (.iaload, 1) := by decide +kernel
theorem dX5_falseBy_19 : decode cX5_falseBy 19 = .ok (.aload_n 0, 1) := by decide +kernel
theorem dX5_falseBy_20 : decode cX5_falseBy 20 = .ok (.getfield 15, 3) := by decide +kernel
theorem dX5_falseBy_23 : decode cX5_falseBy 23 = .ok (.iload_n 3, 1) := by decide +kernel
theorem dX5_falseBy_24 : decode cX5_falseBy 24 = .ok (.iaload, 1) := by decide +kernel
theorem dX5_falseBy_25 : decode cX5_falseBy 25 = .ok (.invokevirtual 28, 3) := by decide +kernel
theorem dX5_falseBy_28 : decode cX5_falseBy 28 = .ok (.aload_n 0, 1) := by decide +kernel
theorem dX5_falseBy_29 : decode cX5_falseBy 29 = .ok (.getfield 18, 3) := by decide +kernel
theorem dX5_falseBy_32 : decode cX5_falseBy 32 = .ok (.iload_n 3, 1) := by decide +kernel
theorem dX5_falseBy_33 : decode cX5_falseBy 33 = .ok (.iaload, 1) := by decide +kernel
theorem dX5_falseBy_34 : decode cX5_falseBy 34 = .ok (.ishr, 1) := by decide +kernel
theorem dX5_falseBy_35 : decode cX5_falseBy 35 = .ok (.iconst 1, 1) := by decide +kernel
theorem dX5_falseBy_36 : decode cX5_falseBy 36 = .ok (.iand, 1) := by decide +kernel
theorem dX5_falseBy_37 : decode cX5_falseBy 37 = .ok (.aload_n 0, 1) := by decide +kernel
theorem dX5_falseBy_38 : decode cX5_falseBy 38 = .ok (.getfield 21, 3) := by decide +kernel
theorem dX5_falseBy_41 : decode cX5_falseBy 41 = .ok (.iload_n 3, 1) := by decide +kernel
theorem dX5_falseBy_42 : decode cX5_falseBy 42 = .ok (.iaload, 1) := by decide +kernel
theorem dX5_falseBy_43 : decode cX5_falseBy 43 = .ok (.if_icmp .eq 6, 3) := by decide +kernel
theorem dX5_falseBy_46 : decode cX5_falseBy 46 = .ok (.iinc 2 1, 3) := by decide +kernel
theorem dX5_falseBy_49 : decode cX5_falseBy 49 = .ok (.iinc 3 1, 3) := by decide +kernel
theorem dX5_falseBy_52 : decode cX5_falseBy 52 = .ok (.goto (-48), 3) := by decide +kernel
theorem dX5_falseBy_55 : decode cX5_falseBy 55 = .ok (.iload_n 2, 1) := by decide +kernel
theorem dX5_falseBy_56 : decode cX5_falseBy 56 = .ok (.ireturn, 1) := by decide +kernel
theorem dX5_take_0 : decode cX5_take 0 = .ok (.aload_n 1, 1) := by decide +kernel
theorem dX5_take_1 : decode cX5_take 1 = .ok (.getfield 9, 3) := by decide +kernel
theorem dX5_take_4 : decode cX5_take 4 = .ok (.iconst 0, 1) := by decide +kernel
theorem dX5_take_5 : decode cX5_take 5 = .ok (.aload_n 0, 1) := by decide +kernel
theorem dX5_take_6 : decode cX5_take 6 = .ok (.getfield 9, 3) := by decide +kernel
theorem dX5_take_9 : decode cX5_take 9 = .ok (.iconst 0, 1) := by decide +kernel
theorem dX5_take_10 : decode cX5_take 10 = .ok (.bipush 8, 2) := by decide +kernel
theorem dX5_take_12 : decode cX5_take 12 = .ok (.invokestatic 34, 3) := by decide +kernel
theorem dX5_take_15 : decode cX5_take 15 = .ok (.aload_n 1, 1) := by decide +kernel
theorem dX5_take_16 : decode cX5_take 16 = .ok (.getfield 15, 3) := by decide +kernel
theorem dX5_take_19 : decode cX5_take 19 = .ok (.iconst 0, 1) := by decide +kernel
theorem dX5_take_20 : decode cX5_take 20 = .ok (.aload_n 0, 1) := by decide +kernel
theorem dX5_take_21 : decode cX5_take 21 = .ok (.getfield 15, 3) := by decide +kernel
theorem dX5_take_24 : decode cX5_take 24 = .ok (.iconst 0, 1) := by decide +kernel
theorem dX5_take_25 : decode cX5_take 25 = .ok (.bipush 8, 2) := by decide +kernel
theorem dX5_take_27 : decode cX5_take 27 = .ok (.invokestatic 34, 3) := by decide +kernel
theorem dX5_take_30 : decode cX5_take 30 = .ok (.aload_n 1, 1) := by decide +kernel
theorem dX5_take_31 : decode cX5_take 31 = .ok (.getfield 18, 3) := by decide +kernel
theorem dX5_take_34 : decode cX5_take 34 = .ok (.iconst 0, 1) := by decide +kernel
theorem dX5_take_35 : decode cX5_take 35 = .ok (.aload_n 0, 1) := by decide +kernel
theorem dX5_take_36 : decode cX5_take 36 = .ok (.getfield 18, 3) := by decide +kernel
theorem dX5_take_39 : decode cX5_take 39 = .ok (.iconst 0, 1) := by decide +kernel
theorem dX5_take_40 : decode cX5_take 40 = .ok (.bipush 8, 2) := by decide +kernel
theorem dX5_take_42 : decode cX5_take 42 = .ok (.invokestatic 34, 3) := by decide +kernel
theorem dX5_take_45 : decode cX5_take 45 = .ok (.aload_n 1, 1) := by decide +kernel
theorem dX5_take_46 : decode cX5_take 46 = .ok (.getfield 21, 3) := by decide +kernel
theorem dX5_take_49 : decode cX5_take 49 = .ok (.iconst 0, 1) := by decide +kernel
theorem dX5_take_50 : decode cX5_take 50 = .ok (.aload_n 0, 1) := by decide +kernel
theorem dX5_take_51 : decode cX5_take 51 = .ok (.getfield 21, 3) := by decide +kernel
theorem dX5_take_54 : decode cX5_take 54 = .ok (.iconst 0, 1) := by decide +kernel
theorem dX5_take_55 : decode cX5_take 55 = .ok (.bipush 8, 2) := by decide +kernel
theorem dX5_take_57 : decode cX5_take 57 = .ok (.invokestatic 34, 3) := by decide +kernel
theorem dX5_take_60 : decode cX5_take 60 = .ok (.aload_n 0, 1) := by decide +kernel
theorem dX5_take_61 : decode cX5_take 61 = .ok (.aload_n 1, 1) := by decide +kernel
theorem dX5_take_62 : decode cX5_take 62 = .ok (.getfield 24, 3) := by decide +kernel
theorem dX5_take_65 : decode cX5_take 65 = .ok (.putfield 24, 3) := by decide +kernel
theorem dX5_take_68 : decode cX5_take 68 = .ok (.return_, 1) := by decide +kernel
theorem dX6_init_0 : decode cX6_init 0 = .ok (.aload_n 0, 1) := by decide +kernel
theorem dX6_init_1 : decode cX6_init 1 = .ok (.invokespecial 3, 3) := by decide +kernel
theorem dX6_init_4 : decode cX6_init 4 = .ok (.aload_n 0, 1) := by decide +kernel
theorem dX6_init_5 : decode cX6_init 5 = .ok (.bipush 40, 2) := by decide +kernel
theorem dX6_init_7 : decode cX6_init 7 = .ok (.newarray .int, 2) := by decide +kernel
theorem dX6_init_9 : decode cX6_init 9 = .ok (.putfield 9, 3) := by decide +kernel
theorem dX6_init_12 : decode cX6_init 12 = .ok (.aload_n 0, 1) := by decide +kernel
theorem dX6_init_13 : decode cX6_init 13 = .ok (.bipush 40, 2) := by decide +kernel
theorem dX6_init_15 : decode cX6_init 15 = .ok (.newarray .int, 2) := by decide +kernel
theorem dX6_init_17 : decode cX6_init 17 = .ok (.putfield 15, 3) := by decide +kernel
theorem dX6_init_20 : decode cX6_init 20 = .ok (.aload_n 0, 1) := by decide +kernel
theorem dX6_init_21 : decode cX6_init 21 = .ok (.bipush 40, 2) := by decide +kernel
theorem dX6_init_23 : decode cX6_init 23 = .ok (.newarray .int, 2) := by decide +kernel
theorem dX6_init_25 : decode cX6_init 25 = .ok (.putfield 18, 3) := by decide +kernel
theorem dX6_init_28 : decode cX6_init 28 = .ok (.aload_n 0, 1) := by decide +kernel
theorem dX6_init_29 : decode cX6_init 29 = .ok (.iconst 5, 1) := by decide +kernel
theorem dX6_init_30 : decode cX6_init 30 = .ok (.newarray .int, 2) := by decide +kernel
theorem dX6_init_32 : decode cX6_init 32 = .ok (.putfield 21, 3) := by decide +kernel
theorem dX6_init_35 : decode cX6_init 35 = .ok (.aload_n 0, 1) := by decide +kernel
theorem dX6_init_36 : decode cX6_init 36 = .ok (.bipush 8, 2) := by decide +kernel
theorem dX6_init_38 : decode cX6_init 38 = .ok (.newarray .int, 2) := by decide +kernel
theorem dX6_init_40 : decode cX6_init 40 = .ok (.putfield 24, 3) := by decide +kernel
theorem dX6_init_43 : decode cX6_init 43 = .ok (.aload_n 0, 1) := by decide +kernel
theorem dX6_init_44 : decode cX6_init 44 = .ok (.iconst 5, 1) := by decide +kernel
theorem dX6_init_45 : decode cX6_init 45 = .ok (.newarray .int, 2) := by decide +kernel
theorem dX6_init_47 : decode cX6_init 47 = .ok (.putfield 27, 3) := by decide +kernel
theorem dX6_init_50 : decode cX6_init 50 = .ok (.aload_n 0, 1) := by decide +kernel
theorem dX6_init_51 : decode cX6_init 51 = .ok (.iconst 0, 1) := by decide +kernel
theorem dX6_init_52 : decode cX6_init 52 = .ok (.putfield 30, 3) := by decide +kernel
theorem dX6_init_55 : decode cX6_init 55 = .ok (.aload_n 0, 1) := by decide +kernel
theorem dX6_init_56 : decode cX6_init 56 = .ok (.iconst 0, 1) := by decide +kernel
theorem dX6_init_57 : decode cX6_init 57 = .ok (.putfield 34, 3) := by decide +kernel
theorem dX6_init_60 : decode cX6_init 60 = .ok (.return_, 1) := by decide +kernel
theorem dX6_rankAll_0 : decode cX6_rankAll 0 = .ok (.aload_n 0, 1) := by decide +kernel
theorem dX6_rankAll_1 : decode cX6_rankAll 1 = .ok (.aload_n 1, 1) := by decide +kernel
theorem dX6_rankAll_2 : decode cX6_rankAll 2 = .ok (.getfield 37, 3) := by decide +kernel
theorem dX6_rankAll_5 : decode cX6_rankAll 5 = .ok (.putfield 30, 3) := by decide +kernel
theorem dX6_rankAll_8 : decode cX6_rankAll 8 = .ok (.aload_n 0, 1) := by decide +kernel
theorem dX6_rankAll_9 : decode cX6_rankAll 9 = .ok (.aload_n 1, 1) := by decide +kernel
theorem dX6_rankAll_10 : decode cX6_rankAll 10 = .ok (.getfield 40, 3) := by decide +kernel
theorem dX6_rankAll_13 : decode cX6_rankAll 13 = .ok (.putfield 34, 3) := by decide +kernel
theorem dX6_rankAll_16 : decode cX6_rankAll 16 = .ok (.iconst 0, 1) := by decide +kernel
theorem dX6_rankAll_17 : decode cX6_rankAll 17 = .ok (.istore 5, 2) := by decide +kernel
theorem dX6_rankAll_19 : decode cX6_rankAll 19 = .ok (.iload 5, 2) := by decide +kernel
theorem dX6_rankAll_21 : decode cX6_rankAll 21 = .ok (.aload_n 0, 1) := by decide +kernel
theorem dX6_rankAll_22 : decode cX6_rankAll 22 = .ok (.getfield 30, 3) := by decide +kernel
theorem dX6_rankAll_25 : decode cX6_rankAll 25 = .ok (.if_icmp .ge 59, 3) := by decide +kernel
theorem dX6_rankAll_28 : decode cX6_rankAll 28 = .ok (.iconst 0, 1) := by decide +kernel
theorem dX6_rankAll_29 : decode cX6_rankAll 29 = .ok (.istore 6, 2) := by decide +kernel
theorem dX6_rankAll_31 : decode cX6_rankAll 31 = .ok (.iload 6, 2) := by decide +kernel
theorem dX6_rankAll_33 : decode cX6_rankAll 33 = .ok (.aload_n 0, 1) := by decide +kernel
theorem dX6_rankAll_34 : decode cX6_rankAll 34 = .ok (.getfield 34, 3) := by decide +kernel
theorem dX6_rankAll_37 : decode cX6_rankAll 37 = .ok (.if_icmp .ge 41, 3) := by decide +kernel
theorem dX6_rankAll_40 : decode cX6_rankAll 40 = .ok (.aload_n 0, 1) := by decide +kernel
theorem dX6_rankAll_41 : decode cX6_rankAll 41 = .ok (.getfield 18, 3) := by decide +kernel
theorem dX6_rankAll_44 : decode cX6_rankAll 44 = .ok (.iload 5, 2) := by decide +kernel
theorem dX6_rankAll_46 : decode cX6_rankAll 46 = .ok (.bipush 8, 2) := by decide +kernel
theorem dX6_rankAll_48 : decode cX6_rankAll 48 = .ok (.imul, 1) := by decide +kernel
theorem dX6_rankAll_49 : decode cX6_rankAll 49 = .ok (.iload 6, 2) := by decide +kernel
theorem dX6_rankAll_51 : decode cX6_rankAll 51 = .ok (.iadd, 1) := by decide +kernel
theorem dX6_rankAll_52 : decode cX6_rankAll 52 = .ok (.aload_n 1, 1) := by decide +kernel
theorem dX6_rankAll_53 : decode cX6_rankAll 53 = .ok (.aload_n 3, 1) := by decide +kernel
theorem dX6_rankAll_54 : decode cX6_rankAll 54 = .ok (.iload 5, 2) := by decide +kernel
theorem dX6_rankAll_56 : decode cX6_rankAll 56 = .ok (.iload 4, 2) := by decide +kernel
theorem dX6_rankAll_58 : decode cX6_rankAll 58 = .ok (.invokevirtual 41, 3) := by decide +kernel
theorem dX6_rankAll_61 : decode cX6_rankAll 61 = .ok (.aload_n 2, 1) := by decide +kernel
theorem dX6_rankAll_62 : decode cX6_rankAll 62 = .ok (.getfield 47, 3) := by decide +kernel
theorem dX6_rankAll_65 : decode cX6_rankAll 65 = .ok (.iload 6, 2) := by decide +kernel
theorem dX6_rankAll_67 : decode cX6_rankAll 67 = .ok (.iaload, 1) := by decide +kernel
theorem dX6_rankAll_68 : decode cX6_rankAll 68 = .ok (.invokevirtual 52, 3) := by decide +kernel
theorem dX6_rankAll_71 : decode cX6_rankAll 71 = .ok (.iastore, 1) := by decide +kernel
theorem dX6_rankAll_72 : decode cX6_rankAll 72 = .ok (.iinc 6 1, 3) := by decide +kernel
theorem dX6_rankAll_75 : decode cX6_rankAll 75 = .ok (.goto (-44), 3) := by decide +kernel
theorem dX6_rankAll_78 : decode cX6_rankAll 78 = .ok (.iinc 5 1, 3) := by decide +kernel
theorem dX6_rankAll_81 : decode cX6_rankAll 81 = .ok (.goto (-62), 3) := by decide +kernel
theorem dX6_rankAll_84 : decode cX6_rankAll 84 = .ok (.iconst 0, 1) := by decide +kernel
theorem dX6_rankAll_85 : decode cX6_rankAll 85 = .ok (.istore 5, 2) := by decide +kernel
theorem dX6_rankAll_87 : decode cX6_rankAll 87 = .ok (.iload 5, 2) := by decide +kernel
theorem dX6_rankAll_89 : decode cX6_rankAll 89 = .ok (.aload_n 0, 1) := by decide +kernel
theorem dX6_rankAll_90 : decode cX6_rankAll 90 = .ok (.getfield 30, 3) := by decide +kernel
theorem dX6_rankAll_93 : decode cX6_rankAll 93 = .ok (.if_icmp .ge 70, 3) := by decide +kernel
theorem dX6_rankAll_96 : decode cX6_rankAll 96 = .ok (.iconst 0, 1) := by decide +kernel
theorem dX6_rankAll_97 : decode cX6_rankAll 97 = .ok (.istore 6, 2) := by decide +kernel
theorem dX6_rankAll_99 : decode cX6_rankAll 99 = .ok (.iload 6, 2) := by decide +kernel
theorem dX6_rankAll_101 : decode cX6_rankAll 101 = .ok (.aload_n 0, 1) := by decide +kernel
theorem dX6_rankAll_102 : decode cX6_rankAll 102 = .ok (.getfield 34, 3) := by decide +kernel
theorem dX6_rankAll_105 : decode cX6_rankAll 105 = .ok (.if_icmp .ge 52, 3) := by decide +kernel
theorem dX6_rankAll_108 : decode cX6_rankAll 108 = .ok (.aload_n 0, 1) := by decide +kernel
theorem dX6_rankAll_109 : decode cX6_rankAll 109 = .ok (.getfield 9, 3) := by decide +kernel
theorem dX6_rankAll_112 : decode cX6_rankAll 112 = .ok (.iload 5, 2) := by decide +kernel
theorem dX6_rankAll_114 : decode cX6_rankAll 114 = .ok (.bipush 8, 2) := by decide +kernel
theorem dX6_rankAll_116 : decode cX6_rankAll 116 = .ok (.imul, 1) := by decide +kernel
theorem dX6_rankAll_117 : decode cX6_rankAll 117 = .ok (.iload 6, 2) := by decide +kernel
theorem dX6_rankAll_119 : decode cX6_rankAll 119 = .ok (.iadd, 1) := by decide +kernel
theorem dX6_rankAll_120 : decode cX6_rankAll 120 = .ok (.aload_n 0, 1) := by decide +kernel
theorem dX6_rankAll_121 : decode cX6_rankAll 121 = .ok (.iload 5, 2) := by decide +kernel
theorem dX6_rankAll_123 : decode cX6_rankAll 123 = .ok (.iload 6, 2) := by decide +kernel
theorem dX6_rankAll_125 : decode cX6_rankAll 125 = .ok (.invokevirtual 55, 3) := by decide +kernel
theorem dX6_rankAll_128 : decode cX6_rankAll 128 = .ok (.iastore, 1) := by decide +kernel
theorem dX6_rankAll_129 : decode cX6_rankAll 129 = .ok (.aload_n 0, 1) := by decide +kernel
theorem dX6_rankAll_130 : decode cX6_rankAll 130 = .ok (.getfield 15, 3) := by decide +kernel
theorem dX6_rankAll_133 : decode cX6_rankAll 133 = .ok (.iload 5, 2) := by decide +kernel
theorem dX6_rankAll_135 : decode cX6_rankAll 135 = .ok (.bipush 8, 2) := by decide +kernel
theorem dX6_rankAll_137 : decode cX6_rankAll 137 = .ok (.imul, 1) := by decide +kernel
theorem dX6_rankAll_138 : decode cX6_rankAll 138 = .ok (.iload 6, 2) := by decide +kernel
theorem dX6_rankAll_140 : decode cX6_rankAll 140 = .ok (.iadd, 1) := by decide +kernel
theorem dX6_rankAll_141 : decode cX6_rankAll 141 = .ok (.aload_n 0, 1) := by decide +kernel
theorem dX6_rankAll_142 : decode cX6_rankAll 142 = .ok (.aload_n 1, 1) := by decide +kernel
theorem dX6_rankAll_143 : decode cX6_rankAll 143 = .ok (.iload 5, 2) := by decide +kernel
theorem dX6_rankAll_145 : decode cX6_rankAll 145 = .ok (.iload 6, 2) := by decide +kernel
theorem dX6_rankAll_147 : decode cX6_rankAll 147 = .ok (.invokevirtual 58, 3) := by decide +kernel
theorem dX6_rankAll_150 : decode cX6_rankAll 150 = .ok (.iastore, 1) := by decide +kernel
theorem dX6_rankAll_151 : decode cX6_rankAll 151 = .ok (.iinc 6 1, 3) := by decide +kernel
theorem dX6_rankAll_154 : decode cX6_rankAll 154 = .ok (.goto (-55), 3) := by decide +kernel
theorem dX6_rankAll_157 : decode cX6_rankAll 157 = .ok (.iinc 5 1, 3) := by decide +kernel
theorem dX6_rankAll_160 : decode cX6_rankAll 160 = .ok (.goto (-73), 3) := by decide +kernel
theorem dX6_rankAll_163 : decode cX6_rankAll 163 = .ok (.return_, 1) := by decide +kernel
theorem dX6_nearerShips_0 : decode cX6_nearerShips 0 = .ok (.aload_n 0, 1) := by decide +kernel
theorem dX6_nearerShips_1 : decode cX6_nearerShips 1 = .ok (.getfield 18, 3) := by decide +kernel
theorem dX6_nearerShips_4 : decode cX6_nearerShips 4 = .ok (.iload_n 1, 1) := by decide +kernel
theorem dX6_nearerShips_5 : decode cX6_nearerShips 5 = .ok (.bipush 8, 2) := by decide +kernel
theorem dX6_nearerShips_7 : decode cX6_nearerShips 7 = .ok (.imul, 1) := by decide +kernel
theorem dX6_nearerShips_8 : decode cX6_nearerShips 8 = .ok (.iload_n 2, 1) := by decide +kernel
theorem dX6_nearerShips_9 : decode cX6_nearerShips 9 = .ok (.iadd, 1) := by decide +kernel
theorem dX6_nearerShips_10 : decode cX6_nearerShips 10 = .ok (.iaload, 1) := by decide +kernel
theorem dX6_nearerShips_11 : decode cX6_nearerShips 11 = .ok (.istore_n 3, 1) := by decide +kernel
theorem dX6_nearerShips_12 : decode cX6_nearerShips 12 = .ok (.iconst 0, 1) := by decide +kernel
theorem dX6_nearerShips_13 : decode cX6_nearerShips 13 = .ok (.istore 4, 2) := by decide +kernel
theorem dX6_nearerShips_15 : decode cX6_nearerShips 15 = .ok (.iconst 0, 1) := by decide +kernel
theorem dX6_nearerShips_16 : decode cX6_nearerShips 16 = .ok (.istore 5, 2) := by decide +kernel
theorem dX6_nearerShips_18 : decode cX6_nearerShips 18 = .ok (.iload 5, 2) := by decide +kernel
theorem dX6_nearerShips_20 : decode cX6_nearerShips 20 = .ok (.aload_n 0, 1) := by decide +kernel
theorem dX6_nearerShips_21 : decode cX6_nearerShips 21 = .ok (.getfield 34, 3) := by decide +kernel
theorem dX6_nearerShips_24 : decode cX6_nearerShips 24 = .ok (.if_icmp .ge 44, 3) := by decide +kernel
theorem dX6_nearerShips_27 : decode cX6_nearerShips 27 = .ok (.aload_n 0, 1) := by decide +kernel
theorem dX6_nearerShips_28 : decode cX6_nearerShips 28 = .ok (.getfield 18, 3) := by decide +kernel
theorem dX6_nearerShips_31 : decode cX6_nearerShips 31 = .ok (.iload_n 1, 1) := by decide +kernel
theorem dX6_nearerShips_32 : decode cX6_nearerShips 32 = .ok (.bipush 8, 2) := by decide +kernel
theorem dX6_nearerShips_34 : decode cX6_nearerShips 34 = .ok (.imul, 1) := by decide +kernel
theorem dX6_nearerShips_35 : decode cX6_nearerShips 35 = .ok (.iload 5, 2) := by decide +kernel
theorem dX6_nearerShips_37 : decode cX6_nearerShips 37 = .ok (.iadd, 1) := by decide +kernel
theorem dX6_nearerShips_38 : decode cX6_nearerShips 38 = .ok (.iaload, 1) := by decide +kernel
theorem dX6_nearerShips_39 : decode cX6_nearerShips 39 = .ok (.istore 6, 2) := by decide +kernel
theorem dX6_nearerShips_41 : decode cX6_nearerShips 41 = .ok (.iload 6, 2) := by decide +kernel
theorem dX6_nearerShips_43 : decode cX6_nearerShips 43 = .ok (.iload_n 3, 1) := by decide +kernel
theorem dX6_nearerShips_44 : decode cX6_nearerShips 44 = .ok (.if_icmp .lt 15, 3) := by decide +kernel
theorem dX6_nearerShips_47 : decode cX6_nearerShips 47 = .ok (.iload 6, 2) := by decide +kernel
theorem dX6_nearerShips_49 : decode cX6_nearerShips 49 = .ok (.iload_n 3, 1) := by decide +kernel
theorem dX6_nearerShips_50 : decode cX6_nearerShips 50 = .ok (.if_icmp .ne 12, 3) := by decide +kernel
theorem dX6_nearerShips_53 : decode cX6_nearerShips 53 = .ok (.iload 5, 2) := by decide +kernel
theorem dX6_nearerShips_55 : decode cX6_nearerShips 55 = .ok (.iload_n 2, 1) := by decide +kernel
theorem dX6_nearerShips_56 : decode cX6_nearerShips 56 = .ok (.if_icmp .ge 6, 3) := by decide +kernel
theorem dX6_nearerShips_59 : decode cX6_nearerShips 59 = .ok (.iinc 4 1, 3) := by decide +kernel
theorem dX6_nearerShips_62 : decode cX6_nearerShips 62 = .ok (.iinc 5 1, 3) := by decide +kernel
theorem dX6_nearerShips_65 : decode cX6_nearerShips 65 = .ok (.goto (-47), 3) := by decide +kernel
theorem dX6_nearerShips_68 : decode cX6_nearerShips 68 = .ok (.iload 4, 2) := by decide +kernel
theorem dX6_nearerShips_70 : decode cX6_nearerShips 70 = .ok (.ireturn, 1) := by decide +kernel
theorem dX6_brighterLights_0 : decode cX6_brighterLights 0 = .ok (.aload_n 1, 1) := by decide +kernel
theorem dX6_brighterLights_1 : decode cX6_brighterLights 1 = .ok (.getfield 62, 3) := by decide +kernel
theorem dX6_brighterLights_4 : decode cX6_brighterLights 4 = .ok (.iload_n 2, 1) := by decide +kernel
theorem dX6_brighterLights_5 : decode cX6_brighterLights 5 = .ok (.iaload, 1) := by decide +kernel
theorem dX6_brighterLights_6 : decode cX6_brighterLights 6 = .ok (.aload_n 0, 1) := by decide +kernel
theorem dX6_brighterLights_7 : decode cX6_brighterLights 7 = .ok (.getfield 18, 3) := by decide +kernel
theorem dX6_brighterLights_10 : decode cX6_brighterLights 10 = .ok (.iload_n 2, 1) := by decide +kernel
theorem dX6_brighterLights_11 : decode cX6_brighterLights 11 = .ok (.bipush 8, 2) := by decide +kernel
theorem dX6_brighterLights_13 : decode cX6_brighterLights 13 = .ok (.imul, 1) := by decide +kernel
theorem dX6_brighterLights_14 : decode cX6_brighterLights 14 = .ok (.iload_n 3, 1) := by decide +kernel
theorem dX6_brighterLights_15 : decode cX6_brighterLights 15 = .ok (.iadd, 1) := by decide +kernel
theorem dX6_brighterLights_16 : decode cX6_brighterLights 16 = .ok (.iaload, 1) := by decide +kernel
theorem dX6_brighterLights_17 : decode cX6_brighterLights 17 = .ok (.isub, 1) := by decide +kernel
theorem dX6_brighterLights_18 : decode cX6_brighterLights 18 = .ok (.istore 4, 2) := by decide +kernel
theorem dX6_brighterLights_20 : decode cX6_brighterLights 20 = .ok (.iconst 0, 1) := by decide +kernel
theorem dX6_brighterLights_21 : decode cX6_brighterLights 21 = .ok (.istore 5, 2) := by decide +kernel
theorem dX6_brighterLights_23 : decode cX6_brighterLights 23 = .ok (.iconst 0, 1) := by decide +kernel
theorem dX6_brighterLights_24 : decode cX6_brighterLights 24 = .ok (.istore 6, 2) := by decide +kernel
theorem dX6_brighterLights_26 : decode cX6_brighterLights 26 = .ok (.iload 6, 2) := by decide +kernel
theorem dX6_brighterLights_28 : decode cX6_brighterLights 28 = .ok (.aload_n 0, 1) := by decide +kernel
theorem dX6_brighterLights_29 : decode cX6_brighterLights 29 = .ok (.getfield 30, 3) := by decide +kernel
theorem dX6_brighterLights_32 : decode cX6_brighterLights 32 = .ok (.if_icmp .ge 54, 3) := by decide +kernel
theorem dX6_brighterLights_35 : decode cX6_brighterLights 35 = .ok (.aload_n 1, 1) := by decide +kernel
theorem dX6_brighterLights_36 : decode cX6_brighterLights 36 = .ok (.getfield 62, 3) := by decide +kernel
theorem dX6_brighterLights_39 : decode cX6_brighterLights 39 = .ok (.iload 6, 2) := by decide +kernel
theorem dX6_brighterLights_41 : decode cX6_brighterLights 41 = .ok (.iaload, 1) := by decide +kernel
theorem dX6_brighterLights_42 : decode cX6_brighterLights 42 = .ok (.aload_n 0, 1) := by decide +kernel
theorem dX6_brighterLights_43 : decode cX6_brighterLights 43 = .ok (.getfield 18, 3) := by decide +kernel
theorem dX6_brighterLights_46 : decode cX6_brighterLights 46 = .ok (.iload 6, 2) := by decide +kernel
theorem dX6_brighterLights_48 : decode cX6_brighterLights 48 = .ok (.bipush 8, 2) := by decide +kernel
theorem dX6_brighterLights_50 : decode cX6_brighterLights 50 = .ok (.imul, 1) := by decide +kernel
theorem dX6_brighterLights_51 : decode cX6_brighterLights 51 = .ok (.iload_n 3, 1) := by decide +kernel
theorem dX6_brighterLights_52 : decode cX6_brighterLights 52 = .ok (.iadd, 1) := by decide +kernel
theorem dX6_brighterLights_53 : decode cX6_brighterLights 53 = .ok (.iaload, 1) := by decide +kernel
theorem dX6_brighterLights_54 : decode cX6_brighterLights 54 = .ok (.isub, 1) := by decide +kernel
theorem dX6_brighterLights_55 : decode cX6_brighterLights 55 = .ok (.istore 7, 2) := by decide +kernel
theorem dX6_brighterLights_57 : decode cX6_brighterLights 57 = .ok (.iload 7, 2) := by decide +kernel
theorem dX6_brighterLights_59 : decode cX6_brighterLights 59 = .ok (.iload 4, 2) := by decide +kernel
theorem dX6_brighterLights_61 : decode cX6_brighterLights 61 = .ok (.if_icmp .gt 16, 3) := by decide +kernel
theorem dX6_brighterLights_64 : decode cX6_brighterLights 64 = .ok (.iload 7, 2) := by decide +kernel
theorem dX6_brighterLights_66 : decode cX6_brighterLights 66 = .ok (.iload 4, 2) := by decide +kernel
theorem dX6_brighterLights_68 : decode cX6_brighterLights 68 = .ok (.if_icmp .ne 12, 3) := by decide +kernel
theorem dX6_brighterLights_71 : decode cX6_brighterLights 71 = .ok (.iload 6, 2) := by decide +kernel
theorem dX6_brighterLights_73 : decode cX6_brighterLights 73 = .ok (.iload_n 2, 1) := by decide +kernel
theorem dX6_brighterLights_74 : decode cX6_brighterLights 74 = .ok (.if_icmp .ge 6, 3) := by decide +kernel
theorem dX6_brighterLights_77 : decode cX6_brighterLights 77 = .ok (.iinc 5 1, 3) := by decide +kernel
theorem dX6_brighterLights_80 : decode cX6_brighterLights 80 = .ok (.iinc 6 1, 3) := by decide +kernel
theorem dX6_brighterLights_83 : decode cX6_brighterLights 83 = .ok (.goto (-57), 3) := by decide +kernel
theorem dX6_brighterLights_86 : decode cX6_brighterLights 86 = .ok (.iload 5, 2) := by decide +kernel
theorem dX6_brighterLights_88 : decode cX6_brighterLights 88 = .ok (.ireturn, 1) := by decide +kernel
theorem dX6_bestShipFor_0 : decode cX6_bestShipFor 0 = .ok (.iconst 0, 1) := by decide +kernel
theorem dX6_bestShipFor_1 : decode cX6_bestShipFor 1 = .ok (.istore_n 2, 1) := by decide +kernel
theorem dX6_bestShipFor_2 : decode cX6_bestShipFor 2 = .ok (.iload_n 2, 1) := by decide +kernel
theorem dX6_bestShipFor_3 : decode cX6_bestShipFor 3 = .ok (.aload_n 0, 1) := by decide +kernel
theorem dX6_bestShipFor_4 : decode cX6_bestShipFor 4 = .ok (.getfield 30, 3) := by decide +kernel
theorem dX6_bestShipFor_7 : decode cX6_bestShipFor 7 = .ok (.if_icmp .ge 23, 3) := by decide +kernel
theorem dX6_bestShipFor_10 : decode cX6_bestShipFor 10 = .ok (.aload_n 0, 1) := by decide +kernel
theorem dX6_bestShipFor_11 : decode cX6_bestShipFor 11 = .ok (.getfield 21, 3) := by decide +kernel
theorem dX6_bestShipFor_14 : decode cX6_bestShipFor 14 = .ok (.iload_n 2, 1) := by decide +kernel
theorem dX6_bestShipFor_15 : decode cX6_bestShipFor 15 = .ok (.iconst (-1), 1) := by decide +kernel
theorem dX6_bestShipFor_16 : decode cX6_bestShipFor 16 = .ok (.iastore, 1) := by decide +kernel
theorem dX6_bestShipFor_17 : decode cX6_bestShipFor 17 = .ok (.aload_n 0, 1) := by decide +kernel
theorem dX6_bestShipFor_18 : decode cX6_bestShipFor 18 = .ok (.getfield 27, 3) := by decide +kernel
theorem dX6_bestShipFor_21 : decode cX6_bestShipFor 21 = .ok (.iload_n 2, 1) := by decide +kernel
theorem dX6_bestShipFor_22 : decode cX6_bestShipFor 22 = .ok (.iconst 0, 1) := by decide +kernel
theorem dX6_bestShipFor_23 : decode cX6_bestShipFor 23 = .ok (.iastore, 1) := by decide +kernel
theorem dX6_bestShipFor_24 : decode cX6_bestShipFor 24 = .ok (.iinc 2 1, 3) := by decide +kernel
theorem dX6_bestShipFor_27 : decode cX6_bestShipFor 27 = .ok (.goto (-25), 3) := by decide +kernel
theorem dX6_bestShipFor_30 : decode cX6_bestShipFor 30 = .ok (.iconst 0, 1) := by decide +kernel
theorem dX6_bestShipFor_31 : decode cX6_bestShipFor 31 = .ok (.istore_n 2, 1) := by decide +kernel
theorem dX6_bestShipFor_32 : decode cX6_bestShipFor 32 = .ok (.iload_n 2, 1) := by decide +kernel
theorem dX6_bestShipFor_33 : decode cX6_bestShipFor 33 = .ok (.aload_n 0, 1) := by decide +kernel
theorem dX6_bestShipFor_34 : decode cX6_bestShipFor 34 = .ok (.getfield 34, 3) := by decide +kernel
theorem dX6_bestShipFor_37 : decode cX6_bestShipFor 37 = .ok (.if_icmp .ge 16, 3) := by decide +kernel
theorem dX6_bestShipFor_40 : decode cX6_bestShipFor 40 = .ok (.aload_n 0, 1) := by decide +kernel
theorem dX6_bestShipFor_41 : decode cX6_bestShipFor 41 = .ok (.getfield 24, 3) := by decide +kernel
theorem dX6_bestShipFor_44 : decode cX6_bestShipFor 44 = .ok (.iload_n 2, 1) := by decide +kernel
theorem dX6_bestShipFor_45 : decode cX6_bestShipFor 45 = .ok (.iconst (-1), 1) := by decide +kernel
theorem dX6_bestShipFor_46 : decode cX6_bestShipFor 46 = .ok (.iastore, 1) := by decide +kernel
theorem dX6_bestShipFor_47 : decode cX6_bestShipFor 47 = .ok (.iinc 2 1, 3) := by decide +kernel
theorem dX6_bestShipFor_50 : decode cX6_bestShipFor 50 = .ok (.goto (-18), 3) := by decide +kernel
theorem dX6_bestShipFor_53 : decode cX6_bestShipFor 53 = .ok (.iconst 0, 1) := by decide +kernel
theorem dX6_bestShipFor_54 : decode cX6_bestShipFor 54 = .ok (.istore_n 2, 1) := by decide +kernel
theorem dX6_bestShipFor_55 : decode cX6_bestShipFor 55 = .ok (.iload_n 2, 1) := by decide +kernel
theorem dX6_bestShipFor_56 : decode cX6_bestShipFor 56 = .ok (.aload_n 0, 1) := by decide +kernel
theorem dX6_bestShipFor_57 : decode cX6_bestShipFor 57 = .ok (.getfield 30, 3) := by decide +kernel
theorem dX6_bestShipFor_60 : decode cX6_bestShipFor 60 = .ok (.aload_n 0, 1) := by decide +kernel
theorem dX6_bestShipFor_61 : decode cX6_bestShipFor 61 = .ok (.getfield 34, 3) := by decide +kernel
theorem dX6_bestShipFor_64 : decode cX6_bestShipFor 64 = .ok (.imul, 1) := by decide +kernel
theorem dX6_bestShipFor_65 : decode cX6_bestShipFor 65 = .ok (.if_icmp .ge 53, 3) := by decide +kernel
theorem dX6_bestShipFor_68 : decode cX6_bestShipFor 68 = .ok (.iconst 0, 1) := by decide +kernel
theorem dX6_bestShipFor_69 : decode cX6_bestShipFor 69 = .ok (.istore_n 3, 1) := by decide +kernel
theorem dX6_bestShipFor_70 : decode cX6_bestShipFor 70 = .ok (.iload_n 3, 1) := by decide +kernel
theorem dX6_bestShipFor_71 : decode cX6_bestShipFor 71 = .ok (.aload_n 0, 1) := by decide +kernel
theorem dX6_bestShipFor_72 : decode cX6_bestShipFor 72 = .ok (.getfield 30, 3) := by decide +kernel
theorem dX6_bestShipFor_75 : decode cX6_bestShipFor 75 = .ok (.if_icmp .ge 37, 3) := by decide +kernel
theorem dX6_bestShipFor_78 : decode cX6_bestShipFor 78 = .ok (.aload_n 0, 1) := by decide +kernel
theorem dX6_bestShipFor_79 : decode cX6_bestShipFor 79 = .ok (.getfield 21, 3) := by decide +kernel
theorem dX6_bestShipFor_82 : decode cX6_bestShipFor 82 = .ok (.iload_n 3, 1) := by decide +kernel
theorem dX6_bestShipFor_83 : decode cX6_bestShipFor 83 = .ok (.iaload, 1) := by decide +kernel
theorem dX6_bestShipFor_84 : decode cX6_bestShipFor 84 = .ok (.iconst (-1), 1) := by decide +kernel
theorem dX6_bestShipFor_85 : decode cX6_bestShipFor 85 = .ok (.if_icmp .ne 21, 3) := by decide +kernel
theorem dX6_bestShipFor_88 : decode cX6_bestShipFor 88 = .ok (.aload_n 0, 1) := by decide +kernel
theorem dX6_bestShipFor_89 : decode cX6_bestShipFor 89 = .ok (.getfield 27, 3) := by decide +kernel
theorem dX6_bestShipFor_92 : decode cX6_bestShipFor 92 = .ok (.iload_n 3, 1) := by decide +kernel
theorem dX6_bestShipFor_93 : decode cX6_bestShipFor 93 = .ok (.iaload, 1) := by decide +kernel
theorem dX6_bestShipFor_94 : decode cX6_bestShipFor 94 = .ok (.aload_n 0, 1) := by decide +kernel
theorem dX6_bestShipFor_95 : decode cX6_bestShipFor 95 = .ok (.getfield 34, 3) := by decide +kernel
theorem dX6_bestShipFor_98 : decode cX6_bestShipFor 98 = .ok (.if_icmp .ge 8, 3) := by decide +kernel
theorem dX6_bestShipFor_101 : decode cX6_bestShipFor 101 = .ok (.aload_n 0, 1) := by decide +kernel
theorem dX6_bestShipFor_102 : decode cX6_bestShipFor 102 = .ok (.iload_n 3, 1) := by decide +kernel
theorem dX6_bestShipFor_103 : decode cX6_bestShipFor 103 = .ok (.invokevirtual 65, 3) := by decide +kernel
theorem dX6_bestShipFor_106 : decode cX6_bestShipFor 106 = .ok (.iinc 3 1, 3) := by decide +kernel
theorem dX6_bestShipFor_109 : decode cX6_bestShipFor 109 = .ok (.goto (-39), 3) := by decide +kernel
theorem dX6_bestShipFor_112 : decode cX6_bestShipFor 112 = .ok (.iinc 2 1, 3) := by decide +kernel
theorem dX6_bestShipFor_115 : decode cX6_bestShipFor 115 = .ok (.goto (-60), 3) := by decide +kernel
theorem dX6_bestShipFor_118 : decode cX6_bestShipFor 118 = .ok (.aload_n 0, 1) := by decide +kernel
theorem dX6_bestShipFor_119 : decode cX6_bestShipFor 119 = .ok (.getfield 21, 3) := by decide +kernel
theorem dX6_bestShipFor_122 : decode cX6_bestShipFor 122 = .ok (.iload_n 1, 1) := by decide +kernel
theorem dX6_bestShipFor_123 : decode cX6_bestShipFor 123 = .ok (.iaload, 1) := by decide +kernel
theorem dX6_bestShipFor_124 : decode cX6_bestShipFor 124 = .ok (.ireturn, 1) := by decide +kernel
theorem dX6_ask_0 : decode cX6_ask 0 = .ok (.aload_n 0, 1) := by decide +kernel
theorem dX6_ask_1 : decode cX6_ask 1 = .ok (.getfield 27, 3) := by decide +kernel
theorem dX6_ask_4 : decode cX6_ask 4 = .ok (.iload_n 1, 1) := by decide +kernel
theorem dX6_ask_5 : decode cX6_ask 5 = .ok (.iaload, 1) := by decide +kernel
theorem dX6_ask_6 : decode cX6_ask 6 = .ok (.istore_n 2, 1) := by decide +kernel
theorem dX6_ask_7 : decode cX6_ask 7 = .ok (.aload_n 0, 1) := by decide +kernel
theorem dX6_ask_8 : decode cX6_ask 8 = .ok (.getfield 27, 3) := by decide +kernel
theorem dX6_ask_11 : decode cX6_ask 11 = .ok (.iload_n 1, 1) := by decide +kernel
theorem dX6_ask_12 : decode cX6_ask 12 = .ok (.dup2, 1) := by decide +kernel
theorem dX6_ask_13 : decode cX6_ask 13 = .ok (.iaload, 1) := by decide +kernel
theorem dX6_ask_14 : decode cX6_ask 14 = .ok (.iconst 1, 1) := by decide +kernel
theorem dX6_ask_15 : decode cX6_ask 15 = .ok (.iadd, 1) := by decide +kernel
theorem dX6_ask_16 : decode cX6_ask 16 = .ok (.iastore, 1) := by decide +kernel
theorem dX6_ask_17 : decode cX6_ask 17 = .ok (.iconst 0, 1) := by decide +kernel
theorem dX6_ask_18 : decode cX6_ask 18 = .ok (.istore_n 3, 1) := by decide +kernel
theorem dX6_ask_19 : decode cX6_ask 19 = .ok (.iload_n 3, 1) := by decide +kernel
theorem dX6_ask_20 : decode cX6_ask 20 = .ok (.aload_n 0, 1) := by decide +kernel
theorem dX6_ask_21 : decode cX6_ask 21 = .ok (.getfield 34, 3) := by decide +kernel
theorem dX6_ask_24 : decode cX6_ask 24 = .ok (.if_icmp .ge 75, 3) := by decide +kernel
theorem dX6_ask_27 : decode cX6_ask 27 = .ok (.aload_n 0, 1) := by decide +kernel
theorem dX6_ask_28 : decode cX6_ask 28 = .ok (.getfield 9, 3) := by decide +kernel
theorem dX6_ask_31 : decode cX6_ask 31 = .ok (.iload_n 1, 1) := by decide +kernel
theorem dX6_ask_32 : decode cX6_ask 32 = .ok (.bipush 8, 2) := by decide +kernel
theorem dX6_ask_34 : decode cX6_ask 34 = .ok (.imul, 1) := by decide +kernel
theorem dX6_ask_35 : decode cX6_ask 35 = .ok (.iload_n 3, 1) := by decide +kernel
theorem dX6_ask_36 : decode cX6_ask 36 = .ok (.iadd, 1) := by decide +kernel
theorem dX6_ask_37 : decode cX6_ask 37 = .ok (.iaload, 1) := by decide +kernel
theorem dX6_ask_38 : decode cX6_ask 38 = .ok (.iload_n 2, 1) := by decide +kernel
theorem dX6_ask_39 : decode cX6_ask 39 = .ok (.if_icmp .ne 54, 3) := by decide +kernel
theorem dX6_ask_42 : decode cX6_ask 42 = .ok (.aload_n 0, 1) := by decide +kernel
theorem dX6_ask_43 : decode cX6_ask 43 = .ok (.iload_n 3, 1) := by decide +kernel
theorem dX6_ask_44 : decode cX6_ask 44 = .ok (.iload_n 1, 1) := by decide +kernel
theorem dX6_ask_45 : decode cX6_ask 45 = .ok (.aload_n 0, 1) := by decide +kernel
theorem dX6_ask_46 : decode cX6_ask 46 = .ok (.getfield 24, 3) := by decide +kernel
theorem dX6_ask_49 : decode cX6_ask 49 = .ok (.iload_n 3, 1) := by decide +kernel
theorem dX6_ask_50 : decode cX6_ask 50 = .ok (.iaload, 1) := by decide +kernel
theorem dX6_ask_51 : decode cX6_ask 51 = .ok (.invokevirtual 69, 3) := by decide +kernel
theorem dX6_ask_54 : decode cX6_ask 54 = .ok (.ifCond .eq 39, 3) := by decide +kernel
theorem dX6_ask_57 : decode cX6_ask 57 = .ok (.aload_n 0, 1) := by decide +kernel
theorem dX6_ask_58 : decode cX6_ask 58 = .ok (.getfield 24, 3) := by decide +kernel
theorem dX6_ask_61 : decode cX6_ask 61 = .ok (.iload_n 3, 1) := by decide +kernel
theorem dX6_ask_62 : decode cX6_ask 62 = .ok (.iaload, 1) := by decide +kernel
theorem dX6_ask_63 : decode cX6_ask 63 = .ok (.iconst (-1), 1) := by decide +kernel
theorem dX6_ask_64 : decode cX6_ask 64 = .ok (.if_icmp .eq 15, 3) := by decide +kernel
theorem dX6_ask_67 : decode cX6_ask 67 = .ok (.aload_n 0, 1) := by decide +kernel
theorem dX6_ask_68 : decode cX6_ask 68 = .ok (.getfield 21, 3) := by decide +kernel
theorem dX6_ask_71 : decode cX6_ask 71 = .ok (.aload_n 0, 1) := by decide +kernel
theorem dX6_ask_72 : decode cX6_ask 72 = .ok (.getfield 24, 3) := by decide +kernel
theorem dX6_ask_75 : decode cX6_ask 75 = .ok (.iload_n 3, 1) := by decide +kernel
theorem dX6_ask_76 : decode cX6_ask 76 = .ok (.iaload, 1) := by decide +kernel
theorem dX6_ask_77 : decode cX6_ask 77 = .ok (.iconst (-1), 1) := by decide +kernel
theorem dX6_ask_78 : decode cX6_ask 78 = .ok (.iastore, 1) := by decide +kernel
theorem dX6_ask_79 : decode cX6_ask 79 = .ok (.aload_n 0, 1) := by decide +kernel
theorem dX6_ask_80 : decode cX6_ask 80 = .ok (.getfield 24, 3) := by decide +kernel
theorem dX6_ask_83 : decode cX6_ask 83 = .ok (.iload_n 3, 1) := by decide +kernel
theorem dX6_ask_84 : decode cX6_ask 84 = .ok (.iload_n 1, 1) := by decide +kernel
theorem dX6_ask_85 : decode cX6_ask 85 = .ok (.iastore, 1) := by decide +kernel
theorem dX6_ask_86 : decode cX6_ask 86 = .ok (.aload_n 0, 1) := by decide +kernel
theorem dX6_ask_87 : decode cX6_ask 87 = .ok (.getfield 21, 3) := by decide +kernel
theorem dX6_ask_90 : decode cX6_ask 90 = .ok (.iload_n 1, 1) := by decide +kernel
theorem dX6_ask_91 : decode cX6_ask 91 = .ok (.iload_n 3, 1) := by decide +kernel
theorem dX6_ask_92 : decode cX6_ask 92 = .ok (.iastore, 1) := by decide +kernel
theorem dX6_ask_93 : decode cX6_ask 93 = .ok (.iinc 3 1, 3) := by decide +kernel
theorem dX6_ask_96 : decode cX6_ask 96 = .ok (.goto (-77), 3) := by decide +kernel
theorem dX6_ask_99 : decode cX6_ask 99 = .ok (.return_, 1) := by decide +kernel
theorem dX6_wouldRather_0 : decode cX6_wouldRather 0 = .ok (.iload_n 3, 1) := by decide +kernel
theorem dX6_wouldRather_1 : decode cX6_wouldRather 1 = .ok (.iconst (-1), 1) := by decide +kernel
theorem dX6_wouldRather_2 : decode cX6_wouldRather 2 = .ok (.if_icmp .eq 28, 3) := by decide +kernel
theorem dX6_wouldRather_5 : decode cX6_wouldRather 5 = .ok (.aload_n 0, 1) := by decide +kernel
theorem dX6_wouldRather_6 : decode cX6_wouldRather 6 = .ok (.getfield 15, 3) := by decide +kernel
theorem dX6_wouldRather_9 : decode cX6_wouldRather 9 = .ok (.iload_n 2, 1) := by decide +kernel
theorem dX6_wouldRather_10 : decode cX6_wouldRather 10 = .ok (.bipush 8, 2) := by decide +kernel
theorem dX6_wouldRather_12 : decode cX6_wouldRather 12 = .ok (.imul, 1) := by decide +kernel
theorem dX6_wouldRather_13 : decode cX6_wouldRather 13 = .ok (.iload_n 1, 1) := by decide +kernel
theorem dX6_wouldRather_14 : decode cX6_wouldRather 14 = .ok (.iadd, 1) := by decide +kernel
theorem dX6_wouldRather_15 : decode cX6_wouldRather 15 = .ok (.iaload, 1) := by decide +kernel
theorem dX6_wouldRather_16 : decode cX6_wouldRather 16 = .ok (.aload_n 0, 1) := by decide +kernel
theorem dX6_wouldRather_17 : decode cX6_wouldRather 17 = .ok (.getfield 15, 3) := by decide +kernel
theorem dX6_wouldRather_20 : decode cX6_wouldRather 20 = .ok (.iload_n 3, 1) := by decide +kernel
theorem dX6_wouldRather_21 : decode cX6_wouldRather 21 = .ok (.bipush 8, 2) := by decide +kernel
theorem dX6_wouldRather_23 : decode cX6_wouldRather 23 = .ok (.imul, 1) := by decide +kernel
theorem dX6_wouldRather_24 : decode cX6_wouldRather 24 = .ok (.iload_n 1, 1) := by decide +kernel
theorem dX6_wouldRather_25 : decode cX6_wouldRather 25 = .ok (.iadd, 1) := by decide +kernel
theorem dX6_wouldRather_26 : decode cX6_wouldRather 26 = .ok (.iaload, 1) := by decide +kernel
theorem dX6_wouldRather_27 : decode cX6_wouldRather 27 = .ok (.if_icmp .ge 7, 3) := by decide +kernel
theorem dX6_wouldRather_30 : decode cX6_wouldRather 30 = .ok (.iconst 1, 1) := by decide +kernel
theorem dX6_wouldRather_31 : decode cX6_wouldRather 31 = .ok (.goto 4, 3) := by decide +kernel
theorem dX6_wouldRather_34 : decode cX6_wouldRather 34 = .ok (.iconst 0, 1) := by decide +kernel
theorem dX6_wouldRather_35 : decode cX6_wouldRather 35 = .ok (.ireturn, 1) := by decide +kernel
theorem dX6_lightWouldRather_0 : decode cX6_lightWouldRather 0 = .ok (.iload_n 3, 1) := by decide +kernel
theorem dX6_lightWouldRather_1 : decode cX6_lightWouldRather 1 = .ok (.iconst (-1), 1) := by decide +kernel
theorem dX6_lightWouldRather_2 : decode cX6_lightWouldRather 2 = .ok (.if_icmp .eq 28, 3) := by decide +kernel
theorem dX6_lightWouldRather_5 : decode cX6_lightWouldRather 5 = .ok (.aload_n 0, 1) := by decide +kernel
theorem dX6_lightWouldRather_6 : decode cX6_lightWouldRather 6 = .ok (.getfield 9, 3) := by decide +kernel
theorem dX6_lightWouldRather_9 : decode cX6_lightWouldRather 9 = .ok (.iload_n 1, 1) := by decide +kernel
theorem dX6_lightWouldRather_10 : decode cX6_lightWouldRather 10 = .ok (.bipush 8, 2) := by decide +kernel
theorem dX6_lightWouldRather_12 : decode cX6_lightWouldRather 12 = .ok (.imul, 1) := by decide +kernel
theorem dX6_lightWouldRather_13 : decode cX6_lightWouldRather 13 = .ok (.iload_n 2, 1) := by decide +kernel
theorem dX6_lightWouldRather_14 : decode cX6_lightWouldRather 14 = .ok (.iadd, 1) := by decide +kernel
theorem dX6_lightWouldRather_15 : decode cX6_lightWouldRather 15 = .ok (.iaload, 1) := by decide +kernel
theorem dX6_lightWouldRather_16 : decode cX6_lightWouldRather 16 = .ok (.aload_n 0, 1) := by decide +kernel
theorem dX6_lightWouldRather_17 : decode cX6_lightWouldRather 17 = .ok (.getfield 9, 3) := by decide +kernel
theorem dX6_lightWouldRather_20 : decode cX6_lightWouldRather 20 = .ok (.iload_n 1, 1) := by decide +kernel
theorem dX6_lightWouldRather_21 : decode cX6_lightWouldRather 21 = .ok (.bipush 8, 2) := by decide +kernel
theorem dX6_lightWouldRather_23 : decode cX6_lightWouldRather 23 = .ok (.imul, 1) := by decide +kernel
theorem dX6_lightWouldRather_24 : decode cX6_lightWouldRather 24 = .ok (.iload_n 3, 1) := by decide +kernel
theorem dX6_lightWouldRather_25 : decode cX6_lightWouldRather 25 = .ok (.iadd, 1) := by decide +kernel
theorem dX6_lightWouldRather_26 : decode cX6_lightWouldRather 26 = .ok (.iaload, 1) := by decide +kernel
theorem dX6_lightWouldRather_27 : decode cX6_lightWouldRather 27 = .ok (.if_icmp .ge 7, 3) := by decide +kernel
theorem dX6_lightWouldRather_30 : decode cX6_lightWouldRather 30 = .ok (.iconst 1, 1) := by decide +kernel
theorem dX6_lightWouldRather_31 : decode cX6_lightWouldRather 31 = .ok (.goto 4, 3) := by decide +kernel
theorem dX6_lightWouldRather_34 : decode cX6_lightWouldRather 34 = .ok (.iconst 0, 1) := by decide +kernel
theorem dX6_lightWouldRather_35 : decode cX6_lightWouldRather 35 = .ok (.ireturn, 1) := by decide +kernel
theorem dX6_stableOnes_0 : decode cX6_stableOnes 0 = .ok (.iconst 0, 1) := by decide +kernel
theorem dX6_stableOnes_1 : decode cX6_stableOnes 1 = .ok (.istore_n 1, 1) := by decide +kernel
theorem dX6_stableOnes_2 : decode cX6_stableOnes 2 = .ok (.iload_n 1, 1) := by decide +kernel
theorem dX6_stableOnes_3 : decode cX6_stableOnes 3 = .ok (.aload_n 0, 1) := by decide +kernel
theorem dX6_stableOnes_4 : decode cX6_stableOnes 4 = .ok (.getfield 34, 3) := by decide +kernel
theorem dX6_stableOnes_7 : decode cX6_stableOnes 7 = .ok (.if_icmp .ge 16, 3) := by decide +kernel
theorem dX6_stableOnes_10 : decode cX6_stableOnes 10 = .ok (.aload_n 0, 1) := by decide +kernel
theorem dX6_stableOnes_11 : decode cX6_stableOnes 11 = .ok (.getfield 24, 3) := by decide +kernel
theorem dX6_stableOnes_14 : decode cX6_stableOnes 14 = .ok (.iload_n 1, 1) := by decide +kernel
theorem dX6_stableOnes_15 : decode cX6_stableOnes 15 = .ok (.iconst (-1), 1) := by decide +kernel
theorem dX6_stableOnes_16 : decode cX6_stableOnes 16 = .ok (.iastore, 1) := by decide +kernel
theorem dX6_stableOnes_17 : decode cX6_stableOnes 17 = .ok (.iinc 1 1, 3) := by decide +kernel
theorem dX6_stableOnes_20 : decode cX6_stableOnes 20 = .ok (.goto (-18), 3) := by decide +kernel
theorem dX6_stableOnes_23 : decode cX6_stableOnes 23 = .ok (.aload_n 0, 1) := by decide +kernel
theorem dX6_stableOnes_24 : decode cX6_stableOnes 24 = .ok (.iconst 0, 1) := by decide +kernel
theorem dX6_stableOnes_25 : decode cX6_stableOnes 25 = .ok (.invokevirtual 73, 3) := by decide +kernel
theorem dX6_stableOnes_28 : decode cX6_stableOnes 28 = .ok (.ireturn, 1) := by decide +kernel
theorem dX6_stableFrom_0 : decode cX6_stableFrom 0 = .ok (.iload_n 1, 1) := by decide +kernel
theorem dX6_stableFrom_1 : decode cX6_stableFrom 1 = .ok (.aload_n 0, 1) := by decide +kernel
theorem dX6_stableFrom_2 : decode cX6_stableFrom 2 = .ok (.getfield 30, 3) := by decide +kernel
theorem dX6_stableFrom_5 : decode cX6_stableFrom 5 = .ok (.if_icmp .lt 16, 3) := by decide +kernel
theorem dX6_stableFrom_8 : decode cX6_stableFrom 8 = .ok (.aload_n 0, 1) := by decide +kernel
theorem dX6_stableFrom_9 : decode cX6_stableFrom 9 = .ok (.invokevirtual 77, 3) := by decide +kernel
theorem dX6_stableFrom_12 : decode cX6_stableFrom 12 = .ok (.ifCond .eq 7, 3) := by decide +kernel
theorem dX6_stableFrom_15 : decode cX6_stableFrom 15 = .ok (.iconst 1, 1) := by decide +kernel
theorem dX6_stableFrom_16 : decode cX6_stableFrom 16 = .ok (.goto 4, 3) := by decide +kernel
theorem dX6_stableFrom_19 : decode cX6_stableFrom 19 = .ok (.iconst 0, 1) := by decide +kernel
theorem dX6_stableFrom_20 : decode cX6_stableFrom 20 = .ok (.ireturn, 1) := by decide +kernel
theorem dX6_stableFrom_21 : decode cX6_stableFrom 21 = .ok (.iconst 0, 1) := by decide +kernel
theorem dX6_stableFrom_22 : decode cX6_stableFrom 22 = .ok (.istore_n 2, 1) := by decide +kernel
theorem dX6_stableFrom_23 : decode cX6_stableFrom 23 = .ok (.iconst (-1), 1) := by decide +kernel
theorem dX6_stableFrom_24 : decode cX6_stableFrom 24 = .ok (.istore_n 3, 1) := by decide +kernel
theorem dX6_stableFrom_25 : decode cX6_stableFrom 25 = .ok (.iload_n 3, 1) := by decide +kernel
theorem dX6_stableFrom_26 : decode cX6_stableFrom 26 = .ok (.aload_n 0, 1) := by decide +kernel
theorem dX6_stableFrom_27 : decode cX6_stableFrom 27 = .ok (.getfield 34, 3) := by decide +kernel
theorem dX6_stableFrom_30 : decode cX6_stableFrom 30 = .ok (.if_icmp .ge 48, 3) := by decide +kernel
theorem dX6_stableFrom_33 : decode cX6_stableFrom 33 = .ok (.iload_n 3, 1) := by decide +kernel
theorem dX6_stableFrom_34 : decode cX6_stableFrom 34 = .ok (.iconst (-1), 1) := by decide +kernel
theorem dX6_stableFrom_35 : decode cX6_stableFrom 35 = .ok (.if_icmp .eq 13, 3) := by decide +kernel
theorem dX6_stableFrom_38 : decode cX6_stableFrom 38 = .ok (.aload_n 0, 1) := by decide +kernel
theorem dX6_stableFrom_39 : decode cX6_stableFrom 39 = .ok (.getfield 24, 3) := by decide +kernel
theorem dX6_stableFrom_42 : decode cX6_stableFrom 42 = .ok (.iload_n 3, 1) := by decide +kernel
theorem dX6_stableFrom_43 : decode cX6_stableFrom 43 = .ok (.iaload, 1) := by decide +kernel
theorem dX6_stableFrom_44 : decode cX6_stableFrom 44 = .ok (.iconst (-1), 1) := by decide +kernel
theorem dX6_stableFrom_45 : decode cX6_stableFrom 45 = .ok (.if_icmp .ne 27, 3) := by decide +kernel
theorem dX6_stableFrom_48 : decode cX6_stableFrom 48 = .ok (.aload_n 0, 1) := by decide +kernel
theorem dX6_stableFrom_49 : decode cX6_stableFrom 49 = .ok (.getfield 21, 3) := by decide +kernel
theorem dX6_stableFrom_52 : decode cX6_stableFrom 52 = .ok (.iload_n 1, 1) := by decide +kernel
theorem dX6_stableFrom_53 : decode cX6_stableFrom 53 = .ok (.iload_n 3, 1) := by decide +kernel
theorem dX6_stableFrom_54 : decode cX6_stableFrom 54 = .ok (.iastore, 1) := by decide +kernel
theorem dX6_stableFrom_55 : decode cX6_stableFrom 55 = .ok (.aload_n 0, 1) := by decide +kernel
theorem dX6_stableFrom_56 : decode cX6_stableFrom 56 = .ok (.iload_n 1, 1) := by decide +kernel
theorem dX6_stableFrom_57 : decode cX6_stableFrom 57 = .ok (.invokevirtual 81, 3) := by decide +kernel
theorem dX6_stableFrom_60 : decode cX6_stableFrom 60 = .ok (.ifCond .eq 12, 3) := by decide +kernel
theorem dX6_stableFrom_63 : decode cX6_stableFrom 63 = .ok (.iload_n 2, 1) := by decide +kernel
theorem dX6_stableFrom_64 : decode cX6_stableFrom 64 = .ok (.aload_n 0, 1) := by decide +kernel
theorem dX6_stableFrom_65 : decode cX6_stableFrom 65 = .ok (.iload_n 1, 1) := by decide +kernel
theorem dX6_stableFrom_66 : decode cX6_stableFrom 66 = .ok (.iload_n 3, 1) := by decide +kernel
theorem dX6_stableFrom_67 : decode cX6_stableFrom 67 = .ok (.invokevirtual 85, 3) := by decide +kernel
theorem dX6_stableFrom_70 : decode cX6_stableFrom 70 = .ok (.iadd, 1) := by decide +kernel
theorem dX6_stableFrom_71 : decode cX6_stableFrom 71 = .ok (.istore_n 2, 1) := by decide +kernel
theorem dX6_stableFrom_72 : decode cX6_stableFrom 72 = .ok (.iinc 3 1, 3) := by decide +kernel
theorem dX6_stableFrom_75 : decode cX6_stableFrom 75 = .ok (.goto (-50), 3) := by decide +kernel
theorem dX6_stableFrom_78 : decode cX6_stableFrom 78 = .ok (.iload_n 2, 1) := by decide +kernel
theorem dX6_stableFrom_79 : decode cX6_stableFrom 79 = .ok (.ireturn, 1) := by decide +kernel
theorem dX6_stableWith_0 : decode cX6_stableWith 0 = .ok (.iload_n 2, 1) := by decide +kernel
theorem dX6_stableWith_1 : decode cX6_stableWith 1 = .ok (.iconst (-1), 1) := by decide +kernel
theorem dX6_stableWith_2 : decode cX6_stableWith 2 = .ok (.if_icmp .ne 11, 3) := by decide +kernel
theorem dX6_stableWith_5 : decode cX6_stableWith 5 = .ok (.aload_n 0, 1) := by decide +kernel
theorem dX6_stableWith_6 : decode cX6_stableWith 6 = .ok (.iload_n 1, 1) := by decide +kernel
theorem dX6_stableWith_7 : decode cX6_stableWith 7 = .ok (.iconst 1, 1) := by decide +kernel
theorem dX6_stableWith_8 : decode cX6_stableWith 8 = .ok (.iadd, 1) := by decide +kernel
theorem dX6_stableWith_9 : decode cX6_stableWith 9 = .ok (.invokevirtual 73, 3) := by decide +kernel
theorem dX6_stableWith_12 : decode cX6_stableWith 12 = .ok (.ireturn, 1) := by decide +kernel
theorem dX6_stableWith_13 : decode cX6_stableWith 13 = .ok (.aload_n 0, 1) := by decide +kernel
theorem dX6_stableWith_14 : decode cX6_stableWith 14 = .ok (.getfield 24, 3) := by decide +kernel
theorem dX6_stableWith_17 : decode cX6_stableWith 17 = .ok (.iload_n 2, 1) := by decide +kernel
theorem dX6_stableWith_18 : decode cX6_stableWith 18 = .ok (.iload_n 1, 1) := by decide +kernel
theorem dX6_stableWith_19 : decode cX6_stableWith 19 = .ok (.iastore, 1) := by decide +kernel
theorem dX6_stableWith_20 : decode cX6_stableWith 20 = .ok (.aload_n 0, 1) := by decide +kernel
theorem dX6_stableWith_21 : decode cX6_stableWith 21 = .ok (.iload_n 1, 1) := by decide +kernel
theorem dX6_stableWith_22 : decode cX6_stableWith 22 = .ok (.iconst 1, 1) := by decide +kernel
theorem dX6_stableWith_23 : decode cX6_stableWith 23 = .ok (.iadd, 1) := by decide +kernel
theorem dX6_stableWith_24 : decode cX6_stableWith 24 = .ok (.invokevirtual 73, 3) := by decide +kernel
theorem dX6_stableWith_27 : decode cX6_stableWith 27 = .ok (.istore_n 3, 1) := by decide +kernel
theorem dX6_stableWith_28 : decode cX6_stableWith 28 = .ok (.aload_n 0, 1) := by decide +kernel
theorem dX6_stableWith_29 : decode cX6_stableWith 29 = .ok (.getfield 24, 3) := by decide +kernel
theorem dX6_stableWith_32 : decode cX6_stableWith 32 = .ok (.iload_n 2, 1) := by decide +kernel
theorem dX6_stableWith_33 : decode cX6_stableWith 33 = .ok (.iconst (-1), 1) := by decide +kernel
theorem dX6_stableWith_34 : decode cX6_stableWith 34 = .ok (.iastore, 1) := by decide +kernel
theorem dX6_stableWith_35 : decode cX6_stableWith 35 = .ok (.iload_n 3, 1) := by decide +kernel
theorem dX6_stableWith_36 : decode cX6_stableWith 36 = .ok (.ireturn, 1) := by decide +kernel
theorem dX6_isQuietBelow_0 : decode cX6_isQuietBelow 0 = .ok (.iconst 0, 1) := by decide +kernel
theorem dX6_isQuietBelow_1 : decode cX6_isQuietBelow 1 = .ok (.istore_n 2, 1) := by decide +kernel
theorem dX6_isQuietBelow_2 : decode cX6_isQuietBelow 2 = .ok (.iload_n 2, 1) := by decide +kernel
theorem dX6_isQuietBelow_3 : decode cX6_isQuietBelow 3 = .ok (.iload_n 1, 1) := by decide +kernel
theorem dX6_isQuietBelow_4 : decode cX6_isQuietBelow 4 = .ok (.if_icmp .ge 29, 3) := by decide +kernel
theorem dX6_isQuietBelow_7 : decode cX6_isQuietBelow 7 = .ok (.aload_n 0, 1) := by decide +kernel
theorem dX6_isQuietBelow_8 : decode cX6_isQuietBelow 8 = .ok (.iload_n 1, 1) := by decide +kernel
theorem dX6_isQuietBelow_9 : decode cX6_isQuietBelow 9 = .ok (.iload_n 2, 1) := by decide +kernel
theorem dX6_isQuietBelow_10 : decode cX6_isQuietBelow 10 = .ok (.invokevirtual 88, 3) := by decide +kernel
theorem dX6_isQuietBelow_13 : decode cX6_isQuietBelow 13 = .ok (.ifCond .ne 12, 3) := by decide +kernel
theorem dX6_isQuietBelow_16 : decode cX6_isQuietBelow 16 = .ok (.aload_n 0, 1) := by decide +kernel
theorem dX6_isQuietBelow_17 : decode cX6_isQuietBelow 17 = .ok (.iload_n 2, 1) := by decide +kernel
theorem dX6_isQuietBelow_18 : decode cX6_isQuietBelow 18 = .ok (.iload_n 1, 1) := by decide +kernel
theorem dX6_isQuietBelow_19 : decode cX6_isQuietBelow 19 = .ok (.invokevirtual 88, 3) := by decide +kernel
theorem dX6_isQuietBelow_22 : decode cX6_isQuietBelow 22 = .ok (.ifCond .eq 5, 3) := by decide +kernel
theorem dX6_isQuietBelow_25 : decode cX6_isQuietBelow 25 = .ok (.iconst 0, 1) := by decide +kernel
theorem dX6_isQuietBelow_26 : decode cX6_isQuietBelow 26 = .ok (.ireturn, 1) := by decide +kernel
theorem dX6_isQuietBelow_27 : decode cX6_isQuietBelow 27 = .ok (.iinc 2 1, 3) := by decide +kernel
theorem dX6_isQuietBelow_30 : decode cX6_isQuietBelow 30 = .ok (.goto (-28), 3) := by decide +kernel
theorem dX6_isQuietBelow_33 : decode cX6_isQuietBelow 33 = .ok (.iconst 1, 1) := by decide +kernel
theorem dX6_isQuietBelow_34 : decode cX6_isQuietBelow 34 = .ok (.ireturn, 1) := by decide +kernel
theorem dX6_wantsShipOf_0 : decode cX6_wantsShipOf 0 = .ok (.aload_n 0, 1) := by decide +kernel
theorem dX6_wantsShipOf_1 : decode cX6_wantsShipOf 1 = .ok (.getfield 21, 3) := by decide +kernel
theorem dX6_wantsShipOf_4 : decode cX6_wantsShipOf 4 = .ok (.iload_n 2, 1) := by decide +kernel
theorem dX6_wantsShipOf_5 : decode cX6_wantsShipOf 5 = .ok (.iaload, 1) := by decide +kernel
theorem dX6_wantsShipOf_6 : decode cX6_wantsShipOf 6 = .ok (.istore_n 3, 1) := by decide +kernel
theorem dX6_wantsShipOf_7 : decode cX6_wantsShipOf 7 = .ok (.iload_n 3, 1) := by decide +kernel
theorem dX6_wantsShipOf_8 : decode cX6_wantsShipOf 8 = .ok (.iconst (-1), 1) := by decide +kernel
theorem dX6_wantsShipOf_9 : decode cX6_wantsShipOf 9 = .ok (.if_icmp .eq 32, 3) := by decide +kernel
theorem dX6_wantsShipOf_12 : decode cX6_wantsShipOf 12 = .ok (.aload_n 0, 1) := by decide +kernel
theorem dX6_wantsShipOf_13 : decode cX6_wantsShipOf 13 = .ok (.iload_n 1, 1) := by decide +kernel
theorem dX6_wantsShipOf_14 : decode cX6_wantsShipOf 14 = .ok (.iload_n 3, 1) := by decide +kernel
theorem dX6_wantsShipOf_15 : decode cX6_wantsShipOf 15 = .ok (.aload_n 0, 1) := by decide +kernel
theorem dX6_wantsShipOf_16 : decode cX6_wantsShipOf 16 = .ok (.getfield 21, 3) := by decide +kernel
theorem dX6_wantsShipOf_19 : decode cX6_wantsShipOf 19 = .ok (.iload_n 1, 1) := by decide +kernel
theorem dX6_wantsShipOf_20 : decode cX6_wantsShipOf 20 = .ok (.iaload, 1) := by decide +kernel
theorem dX6_wantsShipOf_21 : decode cX6_wantsShipOf 21 = .ok (.invokevirtual 92, 3) := by decide +kernel
theorem dX6_wantsShipOf_24 : decode cX6_wantsShipOf 24 = .ok (.ifCond .eq 17, 3) := by decide +kernel
theorem dX6_wantsShipOf_27 : decode cX6_wantsShipOf 27 = .ok (.aload_n 0, 1) := by decide +kernel
theorem dX6_wantsShipOf_28 : decode cX6_wantsShipOf 28 = .ok (.iload_n 3, 1) := by decide +kernel
theorem dX6_wantsShipOf_29 : decode cX6_wantsShipOf 29 = .ok (.iload_n 1, 1) := by decide +kernel
theorem dX6_wantsShipOf_30 : decode cX6_wantsShipOf 30 = .ok (.iload_n 2, 1) := by decide +kernel
theorem dX6_wantsShipOf_31 : decode cX6_wantsShipOf 31 = .ok (.invokevirtual 69, 3) := by decide +kernel
theorem dX6_wantsShipOf_34 : decode cX6_wantsShipOf 34 = .ok (.ifCond .eq 7, 3) := by decide +kernel
theorem dX6_wantsShipOf_37 : decode cX6_wantsShipOf 37 = .ok (.iconst 1, 1) := by decide +kernel
theorem dX6_wantsShipOf_38 : decode cX6_wantsShipOf 38 = .ok (.goto 4, 3) := by decide +kernel
theorem dX6_wantsShipOf_41 : decode cX6_wantsShipOf 41 = .ok (.iconst 0, 1) := by decide +kernel
theorem dX6_wantsShipOf_42 : decode cX6_wantsShipOf 42 = .ok (.ireturn, 1) := by decide +kernel
theorem dX6_isNoShipLeftLonging_0 : decode cX6_isNoShipLeftLonging 0 = .ok (.iconst 0, 1) := by decide +kernel
theorem dX6_isNoShipLeftLonging_1 : decode cX6_isNoShipLeftLonging 1 = .ok (.istore_n 1, 1) := by decide +kernel
theorem dX6_isNoShipLeftLonging_2 : decode cX6_isNoShipLeftLonging 2 = .ok (.iload_n 1, 1) := by decide +kernel
theorem dX6_isNoShipLeftLonging_3 : decode cX6_isNoShipLeftLonging 3 = .ok (.aload_n 0, 1) := by decide +kernel
theorem dX6_isNoShipLeftLonging_4 : decode cX6_isNoShipLeftLonging 4 = .ok (.getfield 34, 3) := by decide +kernel
theorem dX6_isNoShipLeftLonging_7 : decode cX6_isNoShipLeftLonging 7 = .ok (.if_icmp .ge 52, 3) := by decide +kernel
theorem dX6_isNoShipLeftLonging_10 : decode cX6_isNoShipLeftLonging 10 = .ok (.aload_n 0, 1) := by decide +kernel
theorem dX6_isNoShipLeftLonging_11 : decode cX6_isNoShipLeftLonging 11 = .ok (.getfield 24, 3) := by decide +kernel
theorem dX6_isNoShipLeftLonging_14 : decode cX6_isNoShipLeftLonging 14 = .ok (.iload_n 1, 1) := by decide +kernel
theorem dX6_isNoShipLeftLonging_15 : decode cX6_isNoShipLeftLonging 15 = .ok (.iaload, 1) := by decide +kernel
theorem dX6_isNoShipLeftLonging_16 : decode cX6_isNoShipLeftLonging 16 = .ok (.iconst (-1), 1) := by decide +kernel
theorem dX6_isNoShipLeftLonging_17 : decode cX6_isNoShipLeftLonging 17 = .ok (.if_icmp .ne 36, 3) := by decide +kernel
theorem dX6_isNoShipLeftLonging_20 : decode cX6_isNoShipLeftLonging 20 = .ok (.iconst 0, 1) := by decide +kernel
theorem dX6_isNoShipLeftLonging_21 : decode cX6_isNoShipLeftLonging 21 = .ok (.istore_n 2, 1) := by decide +kernel
theorem dX6_isNoShipLeftLonging_22 : decode cX6_isNoShipLeftLonging 22 = .ok (.iload_n 2, 1) := by decide +kernel
theorem dX6_isNoShipLeftLonging_23 : decode cX6_isNoShipLeftLonging 23 = .ok (.aload_n 0, 1) := by decide +kernel
theorem dX6_isNoShipLeftLonging_24 : decode cX6_isNoShipLeftLonging 24 = .ok (.getfield 30, 3) := by decide +kernel
theorem dX6_isNoShipLeftLonging_27 : decode cX6_isNoShipLeftLonging 27 = .ok (.if_icmp .ge 26, 3) := by decide +kernel
theorem dX6_isNoShipLeftLonging_30 : decode cX6_isNoShipLeftLonging 30 = .ok (.aload_n 0, 1) := by decide +kernel
theorem dX6_isNoShipLeftLonging_31 : decode cX6_isNoShipLeftLonging 31 = .ok (.iload_n 2, 1) := by decide +kernel
theorem dX6_isNoShipLeftLonging_32 : decode cX6_isNoShipLeftLonging 32 = .ok (.iload_n 1, 1) := by decide +kernel
theorem dX6_isNoShipLeftLonging_33 : decode cX6_isNoShipLeftLonging 33 = .ok (.aload_n 0, 1) := by decide +kernel
theorem dX6_isNoShipLeftLonging_34 : decode cX6_isNoShipLeftLonging 34 = .ok (.getfield 21, 3) := by decide +kernel
theorem dX6_isNoShipLeftLonging_37 : decode cX6_isNoShipLeftLonging 37 = .ok (.iload_n 2, 1) := by decide +kernel
theorem dX6_isNoShipLeftLonging_38 : decode cX6_isNoShipLeftLonging 38 = .ok (.iaload, 1) := by decide +kernel
theorem dX6_isNoShipLeftLonging_39 : decode cX6_isNoShipLeftLonging 39 = .ok (.invokevirtual 92, 3) := by decide +kernel
theorem dX6_isNoShipLeftLonging_42 : decode cX6_isNoShipLeftLonging 42 = .ok (.ifCond .eq 5, 3) := by decide +kernel
theorem dX6_isNoShipLeftLonging_45 : decode cX6_isNoShipLeftLonging 45 = .ok (.iconst 0, 1) := by decide +kernel
theorem dX6_isNoShipLeftLonging_46 : decode cX6_isNoShipLeftLonging 46 = .ok (.ireturn, 1) := by decide +kernel
theorem dX6_isNoShipLeftLonging_47 : decode cX6_isNoShipLeftLonging 47 = .ok (.iinc 2 1, 3) := by decide +kernel
theorem dX6_isNoShipLeftLonging_50 : decode cX6_isNoShipLeftLonging 50 = .ok (.goto (-28), 3) := by decide +kernel
theorem dX6_isNoShipLeftLonging_53 : decode cX6_isNoShipLeftLonging 53 = .ok (.iinc 1 1, 3) := by decide +kernel
theorem dX6_isNoShipLeftLonging_56 : decode cX6_isNoShipLeftLonging 56 = .ok (.goto (-54), 3) := by decide +kernel
theorem dX6_isNoShipLeftLonging_59 : decode cX6_isNoShipLeftLonging 59 = .ok (.iconst 1, 1) := by decide +kernel
theorem dX6_isNoShipLeftLonging_60 : decode cX6_isNoShipLeftLonging 60 = .ok (.ireturn, 1) := by decide +kernel
theorem dX7_init_0 : decode cX7_init 0 = .ok (.aload_n 0, 1) := by decide +kernel
theorem dX7_init_1 : decode cX7_init 1 = .ok (.invokespecial 3, 3) := by decide +kernel
theorem dX7_init_4 : decode cX7_init 4 = .ok (.aload_n 0, 1) := by decide +kernel
theorem dX7_init_5 : decode cX7_init 5 = .ok (.new 9, 3) := by decide +kernel
theorem dX7_init_8 : decode cX7_init 8 = .ok (.dup, 1) := by decide +kernel
theorem dX7_init_9 : decode cX7_init 9 = .ok (.invokespecial 11, 3) := by decide +kernel
theorem dX7_init_12 : decode cX7_init 12 = .ok (.putfield 12, 3) := by decide +kernel
theorem dX7_init_15 : decode cX7_init 15 = .ok (.aload_n 0, 1) := by decide +kernel
theorem dX7_init_16 : decode cX7_init 16 = .ok (.sipush 144, 3) := by decide +kernel
theorem dX7_init_19 : decode cX7_init 19 = .ok (.newarray .int, 2) := by decide +kernel
theorem dX7_init_21 : decode cX7_init 21 = .ok (.putfield 18, 3) := by decide +kernel
theorem dX7_init_24 : decode cX7_init 24 = .ok (.aload_n 0, 1) := by decide +kernel
theorem dX7_init_25 : decode cX7_init 25 = .ok (.new 22, 3) := by decide +kernel
theorem dX7_init_28 : decode cX7_init 28 = .ok (.dup, 1) := by decide +kernel
theorem dX7_init_29 : decode cX7_init 29 = .ok (.invokespecial 24, 3) := by decide +kernel
theorem dX7_init_32 : decode cX7_init 32 = .ok (.putfield 25, 3) := by decide +kernel
theorem dX7_init_35 : decode cX7_init 35 = .ok (.aload_n 0, 1) := by decide +kernel
theorem dX7_init_36 : decode cX7_init 36 = .ok (.new 29, 3) := by decide +kernel
theorem dX7_init_39 : decode cX7_init 39 = .ok (.dup, 1) := by decide +kernel
theorem dX7_init_40 : decode cX7_init 40 = .ok (.invokespecial 31, 3) := by decide +kernel
theorem dX7_init_43 : decode cX7_init 43 = .ok (.putfield 32, 3) := by decide +kernel
theorem dX7_init_46 : decode cX7_init 46 = .ok (.aload_n 0, 1) := by decide +kernel
theorem dX7_init_47 : decode cX7_init 47 = .ok (.iconst 0, 1) := by decide +kernel
theorem dX7_init_48 : decode cX7_init 48 = .ok (.putfield 36, 3) := by decide +kernel
theorem dX7_init_51 : decode cX7_init 51 = .ok (.aload_n 0, 1) := by decide +kernel
theorem dX7_init_52 : decode cX7_init 52 = .ok (.iconst 0, 1) := by decide +kernel
theorem dX7_init_53 : decode cX7_init 53 = .ok (.putfield 40, 3) := by decide +kernel
theorem dX7_init_56 : decode cX7_init 56 = .ok (.aload_n 0, 1) := by decide +kernel
theorem dX7_init_57 : decode cX7_init 57 = .ok (.iconst (-1), 1) := by decide +kernel
theorem dX7_init_58 : decode cX7_init 58 = .ok (.putfield 44, 3) := by decide +kernel
theorem dX7_init_61 : decode cX7_init 61 = .ok (.return_, 1) := by decide +kernel
theorem dX7_read_0 : decode cX7_read 0 = .ok (.aload_n 0, 1) := by decide +kernel
theorem dX7_read_1 : decode cX7_read 1 = .ok (.getfield 25, 3) := by decide +kernel
theorem dX7_read_4 : decode cX7_read 4 = .ok (.invokevirtual 47, 3) := by decide +kernel
theorem dX7_read_7 : decode cX7_read 7 = .ok (.iconst 0, 1) := by decide +kernel
theorem dX7_read_8 : decode cX7_read 8 = .ok (.istore_n 3, 1) := by decide +kernel
theorem dX7_read_9 : decode cX7_read 9 = .ok (.iload_n 3, 1) := by decide +kernel
theorem dX7_read_10 : decode cX7_read 10 = .ok (.sipush 144, 3) := by decide +kernel
theorem dX7_read_13 : decode cX7_read 13 = .ok (.if_icmp .ge 16, 3) := by decide +kernel
theorem dX7_read_16 : decode cX7_read 16 = .ok (.aload_n 0, 1) := by decide +kernel
theorem dX7_read_17 : decode cX7_read 17 = .ok (.getfield 18, 3) := by decide +kernel
theorem dX7_read_20 : decode cX7_read 20 = .ok (.iload_n 3, 1) := by decide +kernel
theorem dX7_read_21 : decode cX7_read 21 = .ok (.iconst 0, 1) := by decide +kernel
theorem dX7_read_22 : decode cX7_read 22 = .ok (.iastore, 1) := by decide +kernel
theorem dX7_read_23 : decode cX7_read 23 = .ok (.iinc 3 1, 3) := by decide +kernel
theorem dX7_read_26 : decode cX7_read 26 = .ok (.goto (-17), 3) := by decide +kernel
theorem dX7_read_29 : decode cX7_read 29 = .ok (.aload_n 0, 1) := by decide +kernel
theorem dX7_read_30 : decode cX7_read 30 = .ok (.iconst 0, 1) := by decide +kernel
theorem dX7_read_31 : decode cX7_read 31 = .ok (.putfield 36, 3) := by decide +kernel
theorem dX7_read_34 : decode cX7_read 34 = .ok (.aload_n 0, 1) := by decide +kernel
theorem dX7_read_35 : decode cX7_read 35 = .ok (.iconst 0, 1) := by decide +kernel
theorem dX7_read_36 : decode cX7_read 36 = .ok (.putfield 40, 3) := by decide +kernel
theorem dX7_read_39 : decode cX7_read 39 = .ok (.aload_n 0, 1) := by decide +kernel
theorem dX7_read_40 : decode cX7_read 40 = .ok (.iconst (-1), 1) := by decide +kernel
theorem dX7_read_41 : decode cX7_read 41 = .ok (.putfield 44, 3) := by decide +kernel
theorem dX7_read_44 : decode cX7_read 44 = .ok (.aload_n 0, 1) := by decide +kernel
theorem dX7_read_45 : decode cX7_read 45 = .ok (.getfield 32, 3) := by decide +kernel
theorem dX7_read_48 : decode cX7_read 48 = .ok (.getfield 50, 3) := by decide +kernel
theorem dX7_read_51 : decode cX7_read 51 = .ok (.iconst 0, 1) := by decide +kernel
theorem dX7_read_52 : decode cX7_read 52 = .ok (.putfield 54, 3) := by decide +kernel
theorem dX7_read_55 : decode cX7_read 55 = .ok (.aload_n 0, 1) := by decide +kernel
theorem dX7_read_56 : decode cX7_read 56 = .ok (.getfield 32, 3) := by decide +kernel
theorem dX7_read_59 : decode cX7_read 59 = .ok (.getfield 59, 3) := by decide +kernel
theorem dX7_read_62 : decode cX7_read 62 = .ok (.iconst 0, 1) := by decide +kernel
theorem dX7_read_63 : decode cX7_read 63 = .ok (.putfield 63, 3) := by decide +kernel
theorem dX7_read_66 : decode cX7_read 66 = .ok (.aload_n 0, 1) := by decide +kernel
theorem dX7_read_67 : decode cX7_read 67 = .ok (.getfield 12, 3) := by decide +kernel
theorem dX7_read_70 : decode cX7_read 70 = .ok (.aload_n 1, 1) := by decide +kernel
theorem dX7_read_71 : decode cX7_read 71 = .ok (.iload_n 2, 1) := by decide +kernel
theorem dX7_read_72 : decode cX7_read 72 = .ok (.invokevirtual 66, 3) := by decide +kernel
theorem dX7_read_75 : decode cX7_read 75 = .ok (.aload_n 0, 1) := by decide +kernel
theorem dX7_read_76 : decode cX7_read 76 = .ok (.getfield 12, 3) := by decide +kernel
theorem dX7_read_79 : decode cX7_read 79 = .ok (.ldc 70, 2) := by decide +kernel
theorem dX7_read_81 : decode cX7_read 81 = .ok (.invokevirtual 72, 3) := by decide +kernel
theorem dX7_read_84 : decode cX7_read 84 = .ok (.ifCond .eq 8, 3) := by decide +kernel
theorem dX7_read_87 : decode cX7_read 87 = .ok (.aload_n 0, 1) := by decide +kernel
theorem dX7_read_88 : decode cX7_read 88 = .ok (.invokevirtual 76, 3) := by decide +kernel
theorem dX7_read_91 : decode cX7_read 91 = .ok (.pop, 1) := by decide +kernel
theorem dX7_read_92 : decode cX7_read 92 = .ok (.iconst 0, 1) := by decide +kernel
theorem dX7_read_93 : decode cX7_read 93 = .ok (.istore_n 3, 1) := by decide +kernel
theorem dX7_read_94 : decode cX7_read 94 = .ok (.iload_n 3, 1) := by decide +kernel
theorem dX7_read_95 : decode cX7_read 95 = .ok (.sipush 700, 3) := by decide +kernel
theorem dX7_read_98 : decode cX7_read 98 = .ok (.if_icmp .ge 31, 3) := by decide +kernel
theorem dX7_read_101 : decode cX7_read 101 = .ok (.aload_n 0, 1) := by decide +kernel
theorem dX7_read_102 : decode cX7_read 102 = .ok (.getfield 40, 3) := by decide +kernel
theorem dX7_read_105 : decode cX7_read 105 = .ok (.ifCond .ne 24, 3) := by decide +kernel
theorem dX7_read_108 : decode cX7_read 108 = .ok (.aload_n 0, 1) := by decide +kernel
theorem dX7_read_109 : decode cX7_read 109 = .ok (.getfield 12, 3) := by decide +kernel
theorem dX7_read_112 : decode cX7_read 112 = .ok (.getfield 80, 3) := by decide +kernel
theorem dX7_read_115 : decode cX7_read 115 = .ok (.ifCond .eq 14, 3) := by decide +kernel
theorem dX7_read_118 : decode cX7_read 118 = .ok (.aload_n 0, 1) := by decide +kernel
theorem dX7_read_119 : decode cX7_read 119 = .ok (.invokevirtual 83, 3) := by decide +kernel
theorem dX7_read_122 : decode cX7_read 122 = .ok (.pop, 1) := by decide +kernel
theorem dX7_read_123 : decode cX7_read 123 = .ok (.iinc 3 1, 3) := by decide +kernel
theorem dX7_read_126 : decode cX7_read 126 = .ok (.goto (-32), 3) := by decide +kernel
theorem dX7_read_129 : decode cX7_read 129 = .ok (.aload_n 0, 1) := by decide +kernel
theorem dX7_read_130 : decode cX7_read 130 = .ok (.getfield 32, 3) := by decide +kernel
theorem dX7_read_133 : decode cX7_read 133 = .ok (.aload_n 0, 1) := by decide +kernel
theorem dX7_read_134 : decode cX7_read 134 = .ok (.getfield 25, 3) := by decide +kernel
theorem dX7_read_137 : decode cX7_read 137 = .ok (.getfield 86, 3) := by decide +kernel
theorem dX7_read_140 : decode cX7_read 140 = .ok (.getfield 90, 3) := by decide +kernel
theorem dX7_read_143 : decode cX7_read 143 = .ok (.ifCond .le 7, 3) := by decide +kernel
theorem dX7_read_146 : decode cX7_read 146 = .ok (.iconst 0, 1) := by decide +kernel
theorem dX7_read_147 : decode cX7_read 147 = .ok (.goto 4, 3) := by decide +kernel
theorem dX7_read_150 : decode cX7_read 150 = .ok (.iconst (-1), 1) := by decide +kernel
theorem dX7_read_151 : decode cX7_read 151 = .ok (.putfield 95, 3) := by decide +kernel
theorem dX7_read_154 : decode cX7_read 154 = .ok (.aload_n 0, 1) := by decide +kernel
theorem dX7_read_155 : decode cX7_read 155 = .ok (.getfield 40, 3) := by decide +kernel
theorem dX7_read_158 : decode cX7_read 158 = .ok (.ireturn, 1) := by decide +kernel
theorem dX7_refuse_0 : decode cX7_refuse 0 = .ok (.aload_n 0, 1) := by decide +kernel
theorem dX7_refuse_1 : decode cX7_refuse 1 = .ok (.iload_n 1, 1) := by decide +kernel
theorem dX7_refuse_2 : decode cX7_refuse 2 = .ok (.putfield 40, 3) := by decide +kernel
theorem dX7_refuse_5 : decode cX7_refuse 5 = .ok (.aload_n 0, 1) := by decide +kernel
theorem dX7_refuse_6 : decode cX7_refuse 6 = .ok (.aload_n 0, 1) := by decide +kernel
theorem dX7_refuse_7 : decode cX7_refuse 7 = .ok (.getfield 12, 3) := by decide +kernel
theorem dX7_refuse_10 : decode cX7_refuse 10 = .ok (.getfield 98, 3) := by decide +kernel
theorem dX7_refuse_13 : decode cX7_refuse 13 = .ok (.putfield 44, 3) := by decide +kernel
theorem dX7_refuse_16 : decode cX7_refuse 16 = .ok (.iconst 0, 1) := by decide +kernel
theorem dX7_refuse_17 : decode cX7_refuse 17 = .ok (.ireturn, 1) := by decide +kernel
theorem dX7_readLine_0 : decode cX7_readLine 0 = .ok (.aload_n 0, 1) := by decide +kernel
theorem dX7_readLine_1 : decode cX7_readLine 1 = .ok (.getfield 12, 3) := by decide +kernel
theorem dX7_readLine_4 : decode cX7_readLine 4 = .ok (.ldc 99, 2) := by decide +kernel
theorem dX7_readLine_6 : decode cX7_readLine 6 = .ok (.invokevirtual 72, 3) := by decide +kernel
theorem dX7_readLine_9 : decode cX7_readLine 9 = .ok (.ifCond .eq 8, 3) := by decide +kernel
theorem dX7_readLine_12 : decode cX7_readLine 12 = .ok (.aload_n 0, 1) := by decide +kernel
theorem dX7_readLine_13 : decode cX7_readLine 13 = .ok (.invokevirtual 101, 3) := by decide +kernel
theorem dX7_readLine_16 : decode cX7_readLine 16 = .ok (.ireturn, 1) := by decide +kernel
theorem dX7_readLine_17 : decode cX7_readLine 17 = .ok (.aload_n 0, 1) := by decide +kernel
theorem dX7_readLine_18 : decode cX7_readLine 18 = .ok (.getfield 12, 3) := by decide +kernel
theorem dX7_readLine_21 : decode cX7_readLine 21 = .ok (.ldc 104, 2) := by decide +kernel
theorem dX7_readLine_23 : decode cX7_readLine 23 = .ok (.invokevirtual 72, 3) := by decide +kernel
theorem dX7_readLine_26 : decode cX7_readLine 26 = .ok (.ifCond .eq 8, 3) := by decide +kernel
theorem dX7_readLine_29 : decode cX7_readLine 29 = .ok (.aload_n 0, 1) := by decide +kernel
theorem dX7_readLine_30 : decode cX7_readLine 30 = .ok (.invokevirtual 106, 3) := by decide +kernel
theorem dX7_readLine_33 : decode cX7_readLine 33 = .ok (.ireturn, 1) := by decide +kernel
theorem dX7_readLine_34 : decode cX7_readLine 34 = .ok (.aload_n 0, 1) := by decide +kernel
theorem dX7_readLine_35 : decode cX7_readLine 35 = .ok (.getfield 12, 3) := by decide +kernel
theorem dX7_readLine_38 : decode cX7_readLine 38 = .ok (.ldc 109, 2) := by decide +kernel
theorem dX7_readLine_40 : decode cX7_readLine 40 = .ok (.invokevirtual 72, 3) := by decide +kernel
theorem dX7_readLine_43 : decode cX7_readLine 43 = .ok (.ifCond .eq 8, 3) := by decide +kernel
theorem dX7_readLine_46 : decode cX7_readLine 46 = .ok (.aload_n 0, 1) := by decide +kernel
theorem dX7_readLine_47 : decode cX7_readLine 47 = .ok (.invokevirtual 111, 3) := by decide +kernel
theorem dX7_readLine_50 : decode cX7_readLine 50 = .ok (.ireturn, 1) := by decide +kernel
theorem dX7_readLine_51 : decode cX7_readLine 51 = .ok (.aload_n 0, 1) := by decide +kernel
theorem dX7_readLine_52 : decode cX7_readLine 52 = .ok (.getfield 12, 3) := by decide +kernel
theorem dX7_readLine_55 : decode cX7_readLine 55 = .ok (.ldc 114, 2) := by decide +kernel
theorem dX7_readLine_57 : decode cX7_readLine 57 = .ok (.invokevirtual 72, 3) := by decide +kernel
theorem dX7_readLine_60 : decode cX7_readLine 60 = .ok (.ifCond .eq 8, 3) := by decide +kernel
theorem dX7_readLine_63 : decode cX7_readLine 63 = .ok (.aload_n 0, 1) := by decide +kernel
theorem dX7_readLine_64 : decode cX7_readLine 64 = .ok (.invokevirtual 116, 3) := by decide +kernel
theorem dX7_readLine_67 : decode cX7_readLine 67 = .ok (.ireturn, 1) := by decide +kernel
theorem dX7_readLine_68 : decode cX7_readLine 68 = .ok (.aload_n 0, 1) := by decide +kernel
theorem dX7_readLine_69 : decode cX7_readLine 69 = .ok (.getfield 12, 3) := by decide +kernel
theorem dX7_readLine_72 : decode cX7_readLine 72 = .ok (.ldc 119, 2) := by decide +kernel
theorem dX7_readLine_74 : decode cX7_readLine 74 = .ok (.invokevirtual 72, 3) := by decide +kernel
theorem dX7_readLine_77 : decode cX7_readLine 77 = .ok (.ifCond .eq 8, 3) := by decide +kernel
theorem dX7_readLine_80 : decode cX7_readLine 80 = .ok (.aload_n 0, 1) := by decide +kernel
theorem dX7_readLine_81 : decode cX7_readLine 81 = .ok (.invokevirtual 121, 3) := by decide +kernel
theorem dX7_readLine_84 : decode cX7_readLine 84 = .ok (.ireturn, 1) := by decide +kernel
theorem dX7_readLine_85 : decode cX7_readLine 85 = .ok (.aload_n 0, 1) := by decide +kernel
theorem dX7_readLine_86 : decode cX7_readLine 86 = .ok (.iconst 1, 1) := by decide +kernel
theorem dX7_readLine_87 : decode cX7_readLine 87 = .ok (.invokevirtual 124, 3) := by decide +kernel
theorem dX7_readLine_90 : decode cX7_readLine 90 = .ok (.ireturn, 1) := by decide +kernel
theorem dX7_readSea_0 : decode cX7_readSea 0 = .ok (.aload_n 0, 1) := by decide +kernel
theorem dX7_readSea_1 : decode cX7_readSea 1 = .ok (.getfield 12, 3) := by decide +kernel
theorem dX7_readSea_4 : decode cX7_readSea 4 = .ok (.invokevirtual 128, 3) := by decide +kernel
theorem dX7_readSea_7 : decode cX7_readSea 7 = .ok (.aload_n 0, 1) := by decide +kernel
theorem dX7_readSea_8 : decode cX7_readSea 8 = .ok (.iconst 1, 1) := by decide +kernel
theorem dX7_readSea_9 : decode cX7_readSea 9 = .ok (.bipush 12, 2) := by decide +kernel
theorem dX7_readSea_11 : decode cX7_readSea 11 = .ok (.invokevirtual 131, 3) := by decide +kernel
theorem dX7_readSea_14 : decode cX7_readSea 14 = .ok (.istore_n 1, 1) := by decide +kernel
theorem dX7_readSea_15 : decode cX7_readSea 15 = .ok (.iload_n 1, 1) := by decide +kernel
theorem dX7_readSea_16 : decode cX7_readSea 16 = .ok (.iconst (-1), 1) := by decide +kernel
theorem dX7_readSea_17 : decode cX7_readSea 17 = .ok (.if_icmp .ne 5, 3) := by decide +kernel
theorem dX7_readSea_20 : decode cX7_readSea 20 = .ok (.iconst 0, 1) := by decide +kernel
theorem dX7_readSea_21 : decode cX7_readSea 21 = .ok (.ireturn, 1) := by decide +kernel
theorem dX7_readSea_22 : decode cX7_readSea 22 = .ok (.aload_n 0, 1) := by decide +kernel
theorem dX7_readSea_23 : decode cX7_readSea 23 = .ok (.iconst 1, 1) := by decide +kernel
theorem dX7_readSea_24 : decode cX7_readSea 24 = .ok (.bipush 12, 2) := by decide +kernel
theorem dX7_readSea_26 : decode cX7_readSea 26 = .ok (.invokevirtual 131, 3) := by decide +kernel
theorem dX7_readSea_29 : decode cX7_readSea 29 = .ok (.istore_n 2, 1) := by decide +kernel
theorem dX7_readSea_30 : decode cX7_readSea 30 = .ok (.iload_n 2, 1) := by decide +kernel
theorem dX7_readSea_31 : decode cX7_readSea 31 = .ok (.iconst (-1), 1) := by decide +kernel
theorem dX7_readSea_32 : decode cX7_readSea 32 = .ok (.if_icmp .ne 5, 3) := by decide +kernel
theorem dX7_readSea_35 : decode cX7_readSea 35 = .ok (.iconst 0, 1) := by decide +kernel
theorem dX7_readSea_36 : decode cX7_readSea 36 = .ok (.ireturn, 1) := by decide +kernel
theorem dX7_readSea_37 : decode cX7_readSea 37 = .ok (.aload_n 0, 1) := by decide +kernel
theorem dX7_readSea_38 : decode cX7_readSea 38 = .ok (.getfield 25, 3) := by decide +kernel
theorem dX7_readSea_41 : decode cX7_readSea 41 = .ok (.iload_n 1, 1) := by decide +kernel
theorem dX7_readSea_42 : decode cX7_readSea 42 = .ok (.putfield 135, 3) := by decide +kernel
theorem dX7_readSea_45 : decode cX7_readSea 45 = .ok (.aload_n 0, 1) := by decide +kernel
theorem dX7_readSea_46 : decode cX7_readSea 46 = .ok (.getfield 25, 3) := by decide +kernel
theorem dX7_readSea_49 : decode cX7_readSea 49 = .ok (.iload_n 2, 1) := by decide +kernel
theorem dX7_readSea_50 : decode cX7_readSea 50 = .ok (.putfield 138, 3) := by decide +kernel
theorem dX7_readSea_53 : decode cX7_readSea 53 = .ok (.aload_n 0, 1) := by decide +kernel
theorem dX7_readSea_54 : decode cX7_readSea 54 = .ok (.bipush 59, 2) := by decide +kernel
theorem dX7_readSea_56 : decode cX7_readSea 56 = .ok (.invokevirtual 141, 3) := by decide +kernel
theorem dX7_readSea_59 : decode cX7_readSea 59 = .ok (.ireturn, 1) := by decide +kernel
theorem dX7_readCape_0 : decode cX7_readCape 0 = .ok (.aload_n 0, 1) := by decide +kernel
theorem dX7_readCape_1 : decode cX7_readCape 1 = .ok (.getfield 25, 3) := by decide +kernel
theorem dX7_readCape_4 : decode cX7_readCape 4 = .ok (.getfield 144, 3) := by decide +kernel
theorem dX7_readCape_7 : decode cX7_readCape 7 = .ok (.bipush 12, 2) := by decide +kernel
theorem dX7_readCape_9 : decode cX7_readCape 9 = .ok (.if_icmp .lt 9, 3) := by decide +kernel
theorem dX7_readCape_12 : decode cX7_readCape 12 = .ok (.aload_n 0, 1) := by decide +kernel
theorem dX7_readCape_13 : decode cX7_readCape 13 = .ok (.iconst 2, 1) := by decide +kernel
theorem dX7_readCape_14 : decode cX7_readCape 14 = .ok (.invokevirtual 124, 3) := by decide +kernel
theorem dX7_readCape_17 : decode cX7_readCape 17 = .ok (.ireturn, 1) := by decide +kernel
theorem dX7_readCape_18 : decode cX7_readCape 18 = .ok (.aload_n 0, 1) := by decide +kernel
theorem dX7_readCape_19 : decode cX7_readCape 19 = .ok (.getfield 12, 3) := by decide +kernel
theorem dX7_readCape_22 : decode cX7_readCape 22 = .ok (.invokevirtual 128, 3) := by decide +kernel
theorem dX7_readCape_25 : decode cX7_readCape 25 = .ok (.aload_n 0, 1) := by decide +kernel
theorem dX7_readCape_26 : decode cX7_readCape 26 = .ok (.iconst 1, 1) := by decide +kernel
theorem dX7_readCape_27 : decode cX7_readCape 27 = .ok (.bipush 7, 2) := by decide +kernel
theorem dX7_readCape_29 : decode cX7_readCape 29 = .ok (.invokevirtual 147, 3) := by decide +kernel
theorem dX7_readCape_32 : decode cX7_readCape 32 = .ok (.istore_n 1, 1) := by decide +kernel
theorem dX7_readCape_33 : decode cX7_readCape 33 = .ok (.iload_n 1, 1) := by decide +kernel
theorem dX7_readCape_34 : decode cX7_readCape 34 = .ok (.iconst (-1), 1) := by decide +kernel
theorem dX7_readCape_35 : decode cX7_readCape 35 = .ok (.if_icmp .ne 5, 3) := by decide +kernel
theorem dX7_readCape_38 : decode cX7_readCape 38 = .ok (.iconst 0, 1) := by decide +kernel
theorem dX7_readCape_39 : decode cX7_readCape 39 = .ok (.ireturn, 1) := by decide +kernel
theorem dX7_readCape_40 : decode cX7_readCape 40 = .ok (.aload_n 0, 1) := by decide +kernel
theorem dX7_readCape_41 : decode cX7_readCape 41 = .ok (.getfield 25, 3) := by decide +kernel
theorem dX7_readCape_44 : decode cX7_readCape 44 = .ok (.getfield 150, 3) := by decide +kernel
theorem dX7_readCape_47 : decode cX7_readCape 47 = .ok (.iload_n 1, 1) := by decide +kernel
theorem dX7_readCape_48 : decode cX7_readCape 48 = .ok (.iconst 1, 1) := by decide +kernel
theorem dX7_readCape_49 : decode cX7_readCape 49 = .ok (.bastore, 1) := by decide +kernel
theorem dX7_readCape_50 : decode cX7_readCape 50 = .ok (.aload_n 0, 1) := by decide +kernel
theorem dX7_readCape_51 : decode cX7_readCape 51 = .ok (.getfield 25, 3) := by decide +kernel
theorem dX7_readCape_54 : decode cX7_readCape 54 = .ok (.getfield 154, 3) := by decide +kernel
theorem dX7_readCape_57 : decode cX7_readCape 57 = .ok (.aload_n 0, 1) := by decide +kernel
theorem dX7_readCape_58 : decode cX7_readCape 58 = .ok (.getfield 25, 3) := by decide +kernel
theorem dX7_readCape_61 : decode cX7_readCape 61 = .ok (.getfield 144, 3) := by decide +kernel
theorem dX7_readCape_64 : decode cX7_readCape 64 = .ok (.aload_n 0, 1) := by decide +kernel
theorem dX7_readCape_65 : decode cX7_readCape 65 = .ok (.getfield 25, 3) := by decide +kernel
theorem dX7_readCape_68 : decode cX7_readCape 68 = .ok (.iload_n 1, 1) := by decide +kernel
theorem dX7_readCape_69 : decode cX7_readCape 69 = .ok (.invokevirtual 157, 3) := by decide +kernel
theorem dX7_readCape_72 : decode cX7_readCape 72 = .ok (.iastore, 1) := by decide +kernel
theorem dX7_readCape_73 : decode cX7_readCape 73 = .ok (.aload_n 0, 1) := by decide +kernel
theorem dX7_readCape_74 : decode cX7_readCape 74 = .ok (.getfield 25, 3) := by decide +kernel
theorem dX7_readCape_77 : decode cX7_readCape 77 = .ok (.getfield 161, 3) := by decide +kernel
theorem dX7_readCape_80 : decode cX7_readCape 80 = .ok (.aload_n 0, 1) := by decide +kernel
theorem dX7_readCape_81 : decode cX7_readCape 81 = .ok (.getfield 25, 3) := by decide +kernel
theorem dX7_readCape_84 : decode cX7_readCape 84 = .ok (.getfield 144, 3) := by decide +kernel
theorem dX7_readCape_87 : decode cX7_readCape 87 = .ok (.aload_n 0, 1) := by decide +kernel
theorem dX7_readCape_88 : decode cX7_readCape 88 = .ok (.getfield 25, 3) := by decide +kernel
theorem dX7_readCape_91 : decode cX7_readCape 91 = .ok (.iload_n 1, 1) := by decide +kernel
theorem dX7_readCape_92 : decode cX7_readCape 92 = .ok (.invokevirtual 164, 3) := by decide +kernel
theorem dX7_readCape_95 : decode cX7_readCape 95 = .ok (.iastore, 1) := by decide +kernel
theorem dX7_readCape_96 : decode cX7_readCape 96 = .ok (.aload_n 0, 1) := by decide +kernel
theorem dX7_readCape_97 : decode cX7_readCape 97 = .ok (.getfield 25, 3) := by decide +kernel
theorem dX7_readCape_100 : decode cX7_readCape 100 = .ok (.dup, 1) := by decide +kernel
theorem dX7_readCape_101 : decode cX7_readCape 101 = .ok (.getfield 144, 3) := by decide +kernel
theorem dX7_readCape_104 : decode cX7_readCape 104 = .ok (.iconst 1, 1) := by decide +kernel
theorem dX7_readCape_105 : decode cX7_readCape 105 = .ok (.iadd, 1) := by decide +kernel
theorem dX7_readCape_106 : decode cX7_readCape 106 = .ok (.putfield 144, 3) := by decide +kernel
theorem dX7_readCape_109 : decode cX7_readCape 109 = .ok (.aload_n 0, 1) := by decide +kernel
theorem dX7_readCape_110 : decode cX7_readCape 110 = .ok (.bipush 59, 2) := by decide +kernel
theorem dX7_readCape_112 : decode cX7_readCape 112 = .ok (.invokevirtual 141, 3) := by decide +kernel
theorem dX7_readCape_115 : decode cX7_readCape 115 = .ok (.ireturn, 1) := by decide +kernel
theorem dX7_readLight_0 : decode cX7_readLight 0 = .ok (.aload_n 0, 1) := by decide +kernel
theorem dX7_readLight_1 : decode cX7_readLight 1 = .ok (.getfield 25, 3) := by decide +kernel
theorem dX7_readLight_4 : decode cX7_readLight 4 = .ok (.getfield 167, 3) := by decide +kernel
theorem dX7_readLight_7 : decode cX7_readLight 7 = .ok (.istore_n 1, 1) := by decide +kernel
theorem dX7_readLight_8 : decode cX7_readLight 8 = .ok (.iload_n 1, 1) := by decide +kernel
theorem dX7_readLight_9 : decode cX7_readLight 9 = .ok (.iconst 5, 1) := by decide +kernel
theorem dX7_readLight_10 : decode cX7_readLight 10 = .ok (.if_icmp .lt 9, 3) := by decide +kernel
theorem dX7_readLight_13 : decode cX7_readLight 13 = .ok (.aload_n 0, 1) := by decide +kernel
theorem dX7_readLight_14 : decode cX7_readLight 14 = .ok (.iconst 2, 1) := by decide +kernel
theorem dX7_readLight_15 : decode cX7_readLight 15 = .ok (.invokevirtual 124, 3) := by decide +kernel
theorem dX7_readLight_18 : decode cX7_readLight 18 = .ok (.ireturn, 1) := by decide +kernel
theorem dX7_readLight_19 : decode cX7_readLight 19 = .ok (.aload_n 0, 1) := by decide +kernel
theorem dX7_readLight_20 : decode cX7_readLight 20 = .ok (.getfield 12, 3) := by decide +kernel
theorem dX7_readLight_23 : decode cX7_readLight 23 = .ok (.invokevirtual 128, 3) := by decide +kernel
theorem dX7_readLight_26 : decode cX7_readLight 26 = .ok (.aload_n 0, 1) := by decide +kernel
theorem dX7_readLight_27 : decode cX7_readLight 27 = .ok (.getfield 32, 3) := by decide +kernel
theorem dX7_readLight_30 : decode cX7_readLight 30 = .ok (.getfield 170, 3) := by decide +kernel
theorem dX7_readLight_33 : decode cX7_readLight 33 = .ok (.iload_n 1, 1) := by decide +kernel
theorem dX7_readLight_34 : decode cX7_readLight 34 = .ok (.aload_n 0, 1) := by decide +kernel
theorem dX7_readLight_35 : decode cX7_readLight 35 = .ok (.iconst 2, 1) := by decide +kernel
theorem dX7_readLight_36 : decode cX7_readLight 36 = .ok (.iconst 3, 1) := by decide +kernel
theorem dX7_readLight_37 : decode cX7_readLight 37 = .ok (.invokevirtual 147, 3) := by decide +kernel
theorem dX7_readLight_40 : decode cX7_readLight 40 = .ok (.iastore, 1) := by decide +kernel
theorem dX7_readLight_41 : decode cX7_readLight 41 = .ok (.aload_n 0, 1) := by decide +kernel
theorem dX7_readLight_42 : decode cX7_readLight 42 = .ok (.getfield 40, 3) := by decide +kernel
theorem dX7_readLight_45 : decode cX7_readLight 45 = .ok (.ifCond .ne 19, 3) := by decide +kernel
theorem dX7_readLight_48 : decode cX7_readLight 48 = .ok (.aload_n 0, 1) := by decide +kernel
theorem dX7_readLight_49 : decode cX7_readLight 49 = .ok (.getfield 25, 3) := by decide +kernel
theorem dX7_readLight_52 : decode cX7_readLight 52 = .ok (.getfield 173, 3) := by decide +kernel
theorem dX7_readLight_55 : decode cX7_readLight 55 = .ok (.iload_n 1, 1) := by decide +kernel
theorem dX7_readLight_56 : decode cX7_readLight 56 = .ok (.aload_n 0, 1) := by decide +kernel
theorem dX7_readLight_57 : decode cX7_readLight 57 = .ok (.iconst 1, 1) := by decide +kernel
theorem dX7_readLight_58 : decode cX7_readLight 58 = .ok (.bipush 12, 2) := by decide +kernel
theorem dX7_readLight_60 : decode cX7_readLight 60 = .ok (.invokevirtual 131, 3) := by decide +kernel
theorem dX7_readLight_63 : decode cX7_readLight 63 = .ok (.iastore, 1) := by decide +kernel
theorem dX7_readLight_64 : decode cX7_readLight 64 = .ok (.aload_n 0, 1) := by decide +kernel
theorem dX7_readLight_65 : decode cX7_readLight 65 = .ok (.getfield 40, 3) := by decide +kernel
theorem dX7_readLight_68 : decode cX7_readLight 68 = .ok (.ifCond .ne 20, 3) := by decide +kernel
theorem dX7_readLight_71 : decode cX7_readLight 71 = .ok (.aload_n 0, 1) := by decide +kernel
theorem dX7_readLight_72 : decode cX7_readLight 72 = .ok (.getfield 32, 3) := by decide +kernel
theorem dX7_readLight_75 : decode cX7_readLight 75 = .ok (.getfield 176, 3) := by decide +kernel
theorem dX7_readLight_78 : decode cX7_readLight 78 = .ok (.iload_n 1, 1) := by decide +kernel
theorem dX7_readLight_79 : decode cX7_readLight 79 = .ok (.aload_n 0, 1) := by decide +kernel
theorem dX7_readLight_80 : decode cX7_readLight 80 = .ok (.iconst 0, 1) := by decide +kernel
theorem dX7_readLight_81 : decode cX7_readLight 81 = .ok (.sipush 200, 3) := by decide +kernel
theorem dX7_readLight_84 : decode cX7_readLight 84 = .ok (.invokevirtual 131, 3) := by decide +kernel
theorem dX7_readLight_87 : decode cX7_readLight 87 = .ok (.iastore, 1) := by decide +kernel
theorem dX7_readLight_88 : decode cX7_readLight 88 = .ok (.aload_n 0, 1) := by decide +kernel
theorem dX7_readLight_89 : decode cX7_readLight 89 = .ok (.getfield 40, 3) := by decide +kernel
theorem dX7_readLight_92 : decode cX7_readLight 92 = .ok (.ifCond .ne 19, 3) := by decide +kernel
theorem dX7_readLight_95 : decode cX7_readLight 95 = .ok (.aload_n 0, 1) := by decide +kernel
theorem dX7_readLight_96 : decode cX7_readLight 96 = .ok (.getfield 25, 3) := by decide +kernel
theorem dX7_readLight_99 : decode cX7_readLight 99 = .ok (.getfield 179, 3) := by decide +kernel
theorem dX7_readLight_102 : decode cX7_readLight 102 = .ok (.iload_n 1, 1) := by decide +kernel
theorem dX7_readLight_103 : decode cX7_readLight 103 = .ok (.aload_n 0, 1) := by decide +kernel
theorem dX7_readLight_104 : decode cX7_readLight 104 = .ok (.iconst 0, 1) := by decide +kernel
theorem dX7_readLight_105 : decode cX7_readLight 105 = .ok (.bipush 9, 2) := by decide +kernel
theorem dX7_readLight_107 : decode cX7_readLight 107 = .ok (.invokevirtual 131, 3) := by decide +kernel
theorem dX7_readLight_110 : decode cX7_readLight 110 = .ok (.iastore, 1) := by decide +kernel
theorem dX7_readLight_111 : decode cX7_readLight 111 = .ok (.aload_n 0, 1) := by decide +kernel
theorem dX7_readLight_112 : decode cX7_readLight 112 = .ok (.getfield 40, 3) := by decide +kernel
theorem dX7_readLight_115 : decode cX7_readLight 115 = .ok (.ifCond .ne 19, 3) := by decide +kernel
theorem dX7_readLight_118 : decode cX7_readLight 118 = .ok (.aload_n 0, 1) := by decide +kernel
theorem dX7_readLight_119 : decode cX7_readLight 119 = .ok (.iload_n 1, 1) := by decide +kernel
theorem dX7_readLight_120 : decode cX7_readLight 120 = .ok (.invokevirtual 182, 3) := by decide +kernel
theorem dX7_readLight_123 : decode cX7_readLight 123 = .ok (.ifCond .eq 11, 3) := by decide +kernel
theorem dX7_readLight_126 : decode cX7_readLight 126 = .ok (.aload_n 0, 1) := by decide +kernel
theorem dX7_readLight_127 : decode cX7_readLight 127 = .ok (.iload_n 1, 1) := by decide +kernel
theorem dX7_readLight_128 : decode cX7_readLight 128 = .ok (.invokevirtual 185, 3) := by decide +kernel
theorem dX7_readLight_131 : decode cX7_readLight 131 = .ok (.ifCond .ne 5, 3) := by decide +kernel
theorem dX7_readLight_134 : decode cX7_readLight 134 = .ok (.iconst 0, 1) := by decide +kernel
theorem dX7_readLight_135 : decode cX7_readLight 135 = .ok (.ireturn, 1) := by decide +kernel
theorem dX7_readLight_136 : decode cX7_readLight 136 = .ok (.aload_n 0, 1) := by decide +kernel
theorem dX7_readLight_137 : decode cX7_readLight 137 = .ok (.getfield 25, 3) := by decide +kernel
theorem dX7_readLight_140 : decode cX7_readLight 140 = .ok (.dup, 1) := by decide +kernel
theorem dX7_readLight_141 : decode cX7_readLight 141 = .ok (.getfield 167, 3) := by decide +kernel
theorem dX7_readLight_144 : decode cX7_readLight 144 = .ok (.iconst 1, 1) := by decide +kernel
theorem dX7_readLight_145 : decode cX7_readLight 145 = .ok (.iadd, 1) := by decide +kernel
theorem dX7_readLight_146 : decode cX7_readLight 146 = .ok (.putfield 167, 3) := by decide +kernel
theorem dX7_readLight_149 : decode cX7_readLight 149 = .ok (.aload_n 0, 1) := by decide +kernel
theorem dX7_readLight_150 : decode cX7_readLight 150 = .ok (.bipush 59, 2) := by decide +kernel
theorem dX7_readLight_152 : decode cX7_readLight 152 = .ok (.invokevirtual 141, 3) := by decide +kernel
theorem dX7_readLight_155 : decode cX7_readLight 155 = .ok (.ireturn, 1) := by decide +kernel
theorem dX7_readShip_0 : decode cX7_readShip 0 = .ok (.aload_n 0, 1) := by decide +kernel
theorem dX7_readShip_1 : decode cX7_readShip 1 = .ok (.getfield 25, 3) := by decide +kernel
theorem dX7_readShip_4 : decode cX7_readShip 4 = .ok (.getfield 188, 3) := by decide +kernel
theorem dX7_readShip_7 : decode cX7_readShip 7 = .ok (.istore_n 1, 1) := by decide +kernel
theorem dX7_readShip_8 : decode cX7_readShip 8 = .ok (.iload_n 1, 1) := by decide +kernel
theorem dX7_readShip_9 : decode cX7_readShip 9 = .ok (.bipush 8, 2) := by decide +kernel
theorem dX7_readShip_11 : decode cX7_readShip 11 = .ok (.if_icmp .lt 9, 3) := by decide +kernel
theorem dX7_readShip_14 : decode cX7_readShip 14 = .ok (.aload_n 0, 1) := by decide +kernel
theorem dX7_readShip_15 : decode cX7_readShip 15 = .ok (.iconst 2, 1) := by decide +kernel
theorem dX7_readShip_16 : decode cX7_readShip 16 = .ok (.invokevirtual 124, 3) := by decide +kernel
theorem dX7_readShip_19 : decode cX7_readShip 19 = .ok (.ireturn, 1) := by decide +kernel
theorem dX7_readShip_20 : decode cX7_readShip 20 = .ok (.aload_n 0, 1) := by decide +kernel
theorem dX7_readShip_21 : decode cX7_readShip 21 = .ok (.getfield 12, 3) := by decide +kernel
theorem dX7_readShip_24 : decode cX7_readShip 24 = .ok (.invokevirtual 128, 3) := by decide +kernel
theorem dX7_readShip_27 : decode cX7_readShip 27 = .ok (.aload_n 0, 1) := by decide +kernel
theorem dX7_readShip_28 : decode cX7_readShip 28 = .ok (.getfield 32, 3) := by decide +kernel
theorem dX7_readShip_31 : decode cX7_readShip 31 = .ok (.getfield 191, 3) := by decide +kernel
theorem dX7_readShip_34 : decode cX7_readShip 34 = .ok (.iload_n 1, 1) := by decide +kernel
theorem dX7_readShip_35 : decode cX7_readShip 35 = .ok (.aload_n 0, 1) := by decide +kernel
theorem dX7_readShip_36 : decode cX7_readShip 36 = .ok (.iconst 4, 1) := by decide +kernel
theorem dX7_readShip_37 : decode cX7_readShip 37 = .ok (.iconst 5, 1) := by decide +kernel
theorem dX7_readShip_38 : decode cX7_readShip 38 = .ok (.invokevirtual 147, 3) := by decide +kernel
theorem dX7_readShip_41 : decode cX7_readShip 41 = .ok (.iastore, 1) := by decide +kernel
theorem dX7_readShip_42 : decode cX7_readShip 42 = .ok (.aload_n 0, 1) := by decide +kernel
theorem dX7_readShip_43 : decode cX7_readShip 43 = .ok (.getfield 40, 3) := by decide +kernel
theorem dX7_readShip_46 : decode cX7_readShip 46 = .ok (.ifCond .ne 19, 3) := by decide +kernel
theorem dX7_readShip_49 : decode cX7_readShip 49 = .ok (.aload_n 0, 1) := by decide +kernel
theorem dX7_readShip_50 : decode cX7_readShip 50 = .ok (.getfield 32, 3) := by decide +kernel
theorem dX7_readShip_53 : decode cX7_readShip 53 = .ok (.getfield 194, 3) := by decide +kernel
theorem dX7_readShip_56 : decode cX7_readShip 56 = .ok (.iload_n 1, 1) := by decide +kernel
theorem dX7_readShip_57 : decode cX7_readShip 57 = .ok (.aload_n 0, 1) := by decide +kernel
theorem dX7_readShip_58 : decode cX7_readShip 58 = .ok (.iconst 0, 1) := by decide +kernel
theorem dX7_readShip_59 : decode cX7_readShip 59 = .ok (.bipush 12, 2) := by decide +kernel
theorem dX7_readShip_61 : decode cX7_readShip 61 = .ok (.invokevirtual 131, 3) := by decide +kernel
theorem dX7_readShip_64 : decode cX7_readShip 64 = .ok (.iastore, 1) := by decide +kernel
theorem dX7_readShip_65 : decode cX7_readShip 65 = .ok (.aload_n 0, 1) := by decide +kernel
theorem dX7_readShip_66 : decode cX7_readShip 66 = .ok (.getfield 40, 3) := by decide +kernel
theorem dX7_readShip_69 : decode cX7_readShip 69 = .ok (.ifCond .eq 5, 3) := by decide +kernel
theorem dX7_readShip_72 : decode cX7_readShip 72 = .ok (.iconst 0, 1) := by decide +kernel
theorem dX7_readShip_73 : decode cX7_readShip 73 = .ok (.ireturn, 1) := by decide +kernel
theorem dX7_readShip_74 : decode cX7_readShip 74 = .ok (.aload_n 0, 1) := by decide +kernel
theorem dX7_readShip_75 : decode cX7_readShip 75 = .ok (.getfield 25, 3) := by decide +kernel
theorem dX7_readShip_78 : decode cX7_readShip 78 = .ok (.dup, 1) := by decide +kernel
theorem dX7_readShip_79 : decode cX7_readShip 79 = .ok (.getfield 188, 3) := by decide +kernel
theorem dX7_readShip_82 : decode cX7_readShip 82 = .ok (.iconst 1, 1) := by decide +kernel
theorem dX7_readShip_83 : decode cX7_readShip 83 = .ok (.iadd, 1) := by decide +kernel
theorem dX7_readShip_84 : decode cX7_readShip 84 = .ok (.putfield 188, 3) := by decide +kernel
theorem dX7_readShip_87 : decode cX7_readShip 87 = .ok (.aload_n 0, 1) := by decide +kernel
theorem dX7_readShip_88 : decode cX7_readShip 88 = .ok (.bipush 59, 2) := by decide +kernel
theorem dX7_readShip_90 : decode cX7_readShip 90 = .ok (.invokevirtual 141, 3) := by decide +kernel
theorem dX7_readShip_93 : decode cX7_readShip 93 = .ok (.ireturn, 1) := by decide +kernel
theorem dX7_readFog_0 : decode cX7_readFog 0 = .ok (.aload_n 0, 1) := by decide +kernel
theorem dX7_readFog_1 : decode cX7_readFog 1 = .ok (.getfield 36, 3) := by decide +kernel
theorem dX7_readFog_4 : decode cX7_readFog 4 = .ok (.ifCond .eq 9, 3) := by decide +kernel
theorem dX7_readFog_7 : decode cX7_readFog 7 = .ok (.aload_n 0, 1) := by decide +kernel
theorem dX7_readFog_8 : decode cX7_readFog 8 = .ok (.iconst 5, 1) := by decide +kernel
theorem dX7_readFog_9 : decode cX7_readFog 9 = .ok (.invokevirtual 124, 3) := by decide +kernel
theorem dX7_readFog_12 : decode cX7_readFog 12 = .ok (.ireturn, 1) := by decide +kernel
theorem dX7_readFog_13 : decode cX7_readFog 13 = .ok (.aload_n 0, 1) := by decide +kernel
theorem dX7_readFog_14 : decode cX7_readFog 14 = .ok (.iconst 1, 1) := by decide +kernel
theorem dX7_readFog_15 : decode cX7_readFog 15 = .ok (.putfield 36, 3) := by decide +kernel
theorem dX7_readFog_18 : decode cX7_readFog 18 = .ok (.aload_n 0, 1) := by decide +kernel
theorem dX7_readFog_19 : decode cX7_readFog 19 = .ok (.getfield 12, 3) := by decide +kernel
theorem dX7_readFog_22 : decode cX7_readFog 22 = .ok (.invokevirtual 128, 3) := by decide +kernel
theorem dX7_readFog_25 : decode cX7_readFog 25 = .ok (.iconst 0, 1) := by decide +kernel
theorem dX7_readFog_26 : decode cX7_readFog 26 = .ok (.istore_n 1, 1) := by decide +kernel
theorem dX7_readFog_27 : decode cX7_readFog 27 = .ok (.iload_n 1, 1) := by decide +kernel
theorem dX7_readFog_28 : decode cX7_readFog 28 = .ok (.bipush 8, 2) := by decide +kernel
theorem dX7_readFog_30 : decode cX7_readFog 30 = .ok (.if_icmp .gt 74, 3) := by decide +kernel
theorem dX7_readFog_33 : decode cX7_readFog 33 = .ok (.iload_n 1, 1) := by decide +kernel
theorem dX7_readFog_34 : decode cX7_readFog 34 = .ok (.ifCond .eq 14, 3) := by decide +kernel
theorem dX7_readFog_37 : decode cX7_readFog 37 = .ok (.aload_n 0, 1) := by decide +kernel
theorem dX7_readFog_38 : decode cX7_readFog 38 = .ok (.getfield 12, 3) := by decide +kernel
theorem dX7_readFog_41 : decode cX7_readFog 41 = .ok (.getfield 80, 3) := by decide +kernel
theorem dX7_readFog_44 : decode cX7_readFog 44 = .ok (.iconst 3, 1) := by decide +kernel
theorem dX7_readFog_45 : decode cX7_readFog 45 = .ok (.if_icmp .ne 59, 3) := by decide +kernel
theorem dX7_readFog_48 : decode cX7_readFog 48 = .ok (.iload_n 1, 1) := by decide +kernel
theorem dX7_readFog_49 : decode cX7_readFog 49 = .ok (.bipush 8, 2) := by decide +kernel
theorem dX7_readFog_51 : decode cX7_readFog 51 = .ok (.if_icmp .ne 9, 3) := by decide +kernel
theorem dX7_readFog_54 : decode cX7_readFog 54 = .ok (.aload_n 0, 1) := by decide +kernel
theorem dX7_readFog_55 : decode cX7_readFog 55 = .ok (.iconst 2, 1) := by decide +kernel
theorem dX7_readFog_56 : decode cX7_readFog 56 = .ok (.invokevirtual 124, 3) := by decide +kernel
theorem dX7_readFog_59 : decode cX7_readFog 59 = .ok (.ireturn, 1) := by decide +kernel
theorem dX7_readFog_60 : decode cX7_readFog 60 = .ok (.aload_n 0, 1) := by decide +kernel
theorem dX7_readFog_61 : decode cX7_readFog 61 = .ok (.iconst 0, 1) := by decide +kernel
theorem dX7_readFog_62 : decode cX7_readFog 62 = .ok (.bipush 9, 2) := by decide +kernel
theorem dX7_readFog_64 : decode cX7_readFog 64 = .ok (.invokevirtual 131, 3) := by decide +kernel
theorem dX7_readFog_67 : decode cX7_readFog 67 = .ok (.istore_n 2, 1) := by decide +kernel
theorem dX7_readFog_68 : decode cX7_readFog 68 = .ok (.iload_n 2, 1) := by decide +kernel
theorem dX7_readFog_69 : decode cX7_readFog 69 = .ok (.iconst (-1), 1) := by decide +kernel
theorem dX7_readFog_70 : decode cX7_readFog 70 = .ok (.if_icmp .ne 5, 3) := by decide +kernel
theorem dX7_readFog_73 : decode cX7_readFog 73 = .ok (.iconst 0, 1) := by decide +kernel
theorem dX7_readFog_74 : decode cX7_readFog 74 = .ok (.ireturn, 1) := by decide +kernel
theorem dX7_readFog_75 : decode cX7_readFog 75 = .ok (.aload_n 0, 1) := by decide +kernel
theorem dX7_readFog_76 : decode cX7_readFog 76 = .ok (.getfield 25, 3) := by decide +kernel
theorem dX7_readFog_79 : decode cX7_readFog 79 = .ok (.getfield 197, 3) := by decide +kernel
theorem dX7_readFog_82 : decode cX7_readFog 82 = .ok (.iload_n 1, 1) := by decide +kernel
theorem dX7_readFog_83 : decode cX7_readFog 83 = .ok (.iload_n 2, 1) := by decide +kernel
theorem dX7_readFog_84 : decode cX7_readFog 84 = .ok (.iastore, 1) := by decide +kernel
theorem dX7_readFog_85 : decode cX7_readFog 85 = .ok (.aload_n 0, 1) := by decide +kernel
theorem dX7_readFog_86 : decode cX7_readFog 86 = .ok (.getfield 25, 3) := by decide +kernel
theorem dX7_readFog_89 : decode cX7_readFog 89 = .ok (.dup, 1) := by decide +kernel
theorem dX7_readFog_90 : decode cX7_readFog 90 = .ok (.getfield 199, 3) := by decide +kernel
theorem dX7_readFog_93 : decode cX7_readFog 93 = .ok (.iconst 1, 1) := by decide +kernel
theorem dX7_readFog_94 : decode cX7_readFog 94 = .ok (.iadd, 1) := by decide +kernel
theorem dX7_readFog_95 : decode cX7_readFog 95 = .ok (.putfield 199, 3) := by decide +kernel
theorem dX7_readFog_98 : decode cX7_readFog 98 = .ok (.iinc 1 1, 3) := by decide +kernel
theorem dX7_readFog_101 : decode cX7_readFog 101 = .ok (.goto (-74), 3) := by decide +kernel
theorem dX7_readFog_104 : decode cX7_readFog 104 = .ok (.aload_n 0, 1) := by decide +kernel
theorem dX7_readFog_105 : decode cX7_readFog 105 = .ok (.bipush 59, 2) := by decide +kernel
theorem dX7_readFog_107 : decode cX7_readFog 107 = .ok (.invokevirtual 141, 3) := by decide +kernel
theorem dX7_readFog_110 : decode cX7_readFog 110 = .ok (.ireturn, 1) := by decide +kernel
theorem dX7_readLaw_0 : decode cX7_readLaw 0 = .ok (.aload_n 0, 1) := by decide +kernel
theorem dX7_readLaw_1 : decode cX7_readLaw 1 = .ok (.getfield 25, 3) := by decide +kernel
theorem dX7_readLaw_4 : decode cX7_readLaw 4 = .ok (.getfield 86, 3) := by decide +kernel
theorem dX7_readLaw_7 : decode cX7_readLaw 7 = .ok (.getfield 90, 3) := by decide +kernel
theorem dX7_readLaw_10 : decode cX7_readLaw 10 = .ok (.iconst 3, 1) := by decide +kernel
theorem dX7_readLaw_11 : decode cX7_readLaw 11 = .ok (.if_icmp .lt 9, 3) := by decide +kernel
theorem dX7_readLaw_14 : decode cX7_readLaw 14 = .ok (.aload_n 0, 1) := by decide +kernel
theorem dX7_readLaw_15 : decode cX7_readLaw 15 = .ok (.iconst 2, 1) := by decide +kernel
theorem dX7_readLaw_16 : decode cX7_readLaw 16 = .ok (.invokevirtual 124, 3) := by decide +kernel
theorem dX7_readLaw_19 : decode cX7_readLaw 19 = .ok (.ireturn, 1) := by decide +kernel
theorem dX7_readLaw_20 : decode cX7_readLaw 20 = .ok (.aload_n 0, 1) := by decide +kernel
theorem dX7_readLaw_21 : decode cX7_readLaw 21 = .ok (.getfield 12, 3) := by decide +kernel
theorem dX7_readLaw_24 : decode cX7_readLaw 24 = .ok (.invokevirtual 128, 3) := by decide +kernel
theorem dX7_readLaw_27 : decode cX7_readLaw 27 = .ok (.aload_n 0, 1) := by decide +kernel
theorem dX7_readLaw_28 : decode cX7_readLaw 28 = .ok (.iconst 0, 1) := by decide +kernel
theorem dX7_readLaw_29 : decode cX7_readLaw 29 = .ok (.invokevirtual 202, 3) := by decide +kernel
theorem dX7_readLaw_32 : decode cX7_readLaw 32 = .ok (.ifCond .ne 5, 3) := by decide +kernel
theorem dX7_readLaw_35 : decode cX7_readLaw 35 = .ok (.iconst 0, 1) := by decide +kernel
theorem dX7_readLaw_36 : decode cX7_readLaw 36 = .ok (.ireturn, 1) := by decide +kernel
theorem dX7_readLaw_37 : decode cX7_readLaw 37 = .ok (.aload_n 0, 1) := by decide +kernel
theorem dX7_readLaw_38 : decode cX7_readLaw 38 = .ok (.getfield 25, 3) := by decide +kernel
theorem dX7_readLaw_41 : decode cX7_readLaw 41 = .ok (.getfield 86, 3) := by decide +kernel
theorem dX7_readLaw_44 : decode cX7_readLaw 44 = .ok (.invokevirtual 205, 3) := by decide +kernel
theorem dX7_readLaw_47 : decode cX7_readLaw 47 = .ok (.aload_n 0, 1) := by decide +kernel
theorem dX7_readLaw_48 : decode cX7_readLaw 48 = .ok (.bipush 59, 2) := by decide +kernel
theorem dX7_readLaw_50 : decode cX7_readLaw 50 = .ok (.invokevirtual 141, 3) := by decide +kernel
theorem dX7_readLaw_53 : decode cX7_readLaw 53 = .ok (.ireturn, 1) := by decide +kernel
theorem dX7_readSign_0 : decode cX7_readSign 0 = .ok (.aload_n 0, 1) := by decide +kernel
theorem dX7_readSign_1 : decode cX7_readSign 1 = .ok (.getfield 12, 3) := by decide +kernel
theorem dX7_readSign_4 : decode cX7_readSign 4 = .ok (.getfield 80, 3) := by decide +kernel
theorem dX7_readSign_7 : decode cX7_readSign 7 = .ok (.iload_n 1, 1) := by decide +kernel
theorem dX7_readSign_8 : decode cX7_readSign 8 = .ok (.if_icmp .eq 9, 3) := by decide +kernel
theorem dX7_readSign_11 : decode cX7_readSign 11 = .ok (.aload_n 0, 1) := by decide +kernel
theorem dX7_readSign_12 : decode cX7_readSign 12 = .ok (.iconst 1, 1) := by decide +kernel
theorem dX7_readSign_13 : decode cX7_readSign 13 = .ok (.invokevirtual 124, 3) := by decide +kernel
theorem dX7_readSign_16 : decode cX7_readSign 16 = .ok (.ireturn, 1) := by decide +kernel
theorem dX7_readSign_17 : decode cX7_readSign 17 = .ok (.aload_n 0, 1) := by decide +kernel
theorem dX7_readSign_18 : decode cX7_readSign 18 = .ok (.getfield 12, 3) := by decide +kernel
theorem dX7_readSign_21 : decode cX7_readSign 21 = .ok (.invokevirtual 128, 3) := by decide +kernel
theorem dX7_readSign_24 : decode cX7_readSign 24 = .ok (.iconst 1, 1) := by decide +kernel
theorem dX7_readSign_25 : decode cX7_readSign 25 = .ok (.ireturn, 1) := by decide +kernel
theorem dX7_numberHere_0 : decode cX7_numberHere 0 = .ok (.aload_n 0, 1) := by decide +kernel
theorem dX7_numberHere_1 : decode cX7_numberHere 1 = .ok (.getfield 12, 3) := by decide +kernel
theorem dX7_numberHere_4 : decode cX7_numberHere 4 = .ok (.getfield 80, 3) := by decide +kernel
theorem dX7_numberHere_7 : decode cX7_numberHere 7 = .ok (.iconst 3, 1) := by decide +kernel
theorem dX7_numberHere_8 : decode cX7_numberHere 8 = .ok (.if_icmp .eq 11, 3) := by decide +kernel
theorem dX7_numberHere_11 : decode cX7_numberHere 11 = .ok (.aload_n 0, 1) := by decide +kernel
theorem dX7_numberHere_12 : decode cX7_numberHere 12 = .ok (.iconst 1, 1) := by decide +kernel
theorem dX7_numberHere_13 : decode cX7_numberHere 13 = .ok (.invokevirtual 124, 3) := by decide +kernel
theorem dX7_numberHere_16 : decode cX7_numberHere 16 = .ok (.pop, 1) := by decide +kernel
theorem dX7_numberHere_17 : decode cX7_numberHere 17 = .ok (.iconst (-1), 1) := by decide +kernel
theorem dX7_numberHere_18 : decode cX7_numberHere 18 = .ok (.ireturn, 1) := by decide +kernel
theorem dX7_numberHere_19 : decode cX7_numberHere 19 = .ok (.aload_n 0, 1) := by decide +kernel
theorem dX7_numberHere_20 : decode cX7_numberHere 20 = .ok (.getfield 12, 3) := by decide +kernel
theorem dX7_numberHere_23 : decode cX7_numberHere 23 = .ok (.getfield 208, 3) := by decide +kernel
theorem dX7_numberHere_26 : decode cX7_numberHere 26 = .ok (.iload_n 1, 1) := by decide +kernel
theorem dX7_numberHere_27 : decode cX7_numberHere 27 = .ok (.if_icmp .lt 14, 3) := by decide +kernel
theorem dX7_numberHere_30 : decode cX7_numberHere 30 = .ok (.aload_n 0, 1) := by decide +kernel
theorem dX7_numberHere_31 : decode cX7_numberHere 31 = .ok (.getfield 12, 3) := by decide +kernel
theorem dX7_numberHere_34 : decode cX7_numberHere 34 = .ok (.getfield 208, 3) := by decide +kernel
theorem dX7_numberHere_37 : decode cX7_numberHere 37 = .ok (.iload_n 2, 1) := by decide +kernel
theorem dX7_numberHere_38 : decode cX7_numberHere 38 = .ok (.if_icmp .le 11, 3) := by decide +kernel
theorem dX7_numberHere_41 : decode cX7_numberHere 41 = .ok (.aload_n 0, 1) := by decide +kernel
theorem dX7_numberHere_42 : decode cX7_numberHere 42 = .ok (.iconst 2, 1) := by decide +kernel
theorem dX7_numberHere_43 : decode cX7_numberHere 43 = .ok (.invokevirtual 124, 3) := by decide +kernel
theorem dX7_numberHere_46 : decode cX7_numberHere 46 = .ok (.pop, 1) := by decide +kernel
theorem dX7_numberHere_47 : decode cX7_numberHere 47 = .ok (.iconst (-1), 1) := by decide +kernel
theorem dX7_numberHere_48 : decode cX7_numberHere 48 = .ok (.ireturn, 1) := by decide +kernel
theorem dX7_numberHere_49 : decode cX7_numberHere 49 = .ok (.aload_n 0, 1) := by decide +kernel
theorem dX7_numberHere_50 : decode cX7_numberHere 50 = .ok (.getfield 12, 3) := by decide +kernel
theorem dX7_numberHere_53 : decode cX7_numberHere 53 = .ok (.getfield 208, 3) := by decide +kernel
theorem dX7_numberHere_56 : decode cX7_numberHere 56 = .ok (.ireturn, 1) := by decide +kernel
theorem dX7_readNumber_0 : decode cX7_readNumber 0 = .ok (.aload_n 0, 1) := by decide +kernel
theorem dX7_readNumber_1 : decode cX7_readNumber 1 = .ok (.iload_n 1, 1) := by decide +kernel
theorem dX7_readNumber_2 : decode cX7_readNumber 2 = .ok (.iload_n 2, 1) := by decide +kernel
theorem dX7_readNumber_3 : decode cX7_readNumber 3 = .ok (.invokevirtual 211, 3) := by decide +kernel
theorem dX7_readNumber_6 : decode cX7_readNumber 6 = .ok (.istore_n 3, 1) := by decide +kernel
theorem dX7_readNumber_7 : decode cX7_readNumber 7 = .ok (.iload_n 3, 1) := by decide +kernel
theorem dX7_readNumber_8 : decode cX7_readNumber 8 = .ok (.iconst (-1), 1) := by decide +kernel
theorem dX7_readNumber_9 : decode cX7_readNumber 9 = .ok (.if_icmp .eq 10, 3) := by decide +kernel
theorem dX7_readNumber_12 : decode cX7_readNumber 12 = .ok (.aload_n 0, 1) := by decide +kernel
theorem dX7_readNumber_13 : decode cX7_readNumber 13 = .ok (.getfield 12, 3) := by decide +kernel
theorem dX7_readNumber_16 : decode cX7_readNumber 16 = .ok (.invokevirtual 128, 3) := by decide +kernel
theorem dX7_readNumber_19 : decode cX7_readNumber 19 = .ok (.iload_n 3, 1) := by decide +kernel
theorem dX7_readNumber_20 : decode cX7_readNumber 20 = .ok (.ireturn, 1) := by decide +kernel
theorem dX7_readCell_0 : decode cX7_readCell 0 = .ok (.aload_n 0, 1) := by decide +kernel
theorem dX7_readCell_1 : decode cX7_readCell 1 = .ok (.iconst 0, 1) := by decide +kernel
theorem dX7_readCell_2 : decode cX7_readCell 2 = .ok (.aload_n 0, 1) := by decide +kernel
theorem dX7_readCell_3 : decode cX7_readCell 3 = .ok (.getfield 25, 3) := by decide +kernel
theorem dX7_readCell_6 : decode cX7_readCell 6 = .ok (.getfield 135, 3) := by decide +kernel
theorem dX7_readCell_9 : decode cX7_readCell 9 = .ok (.iconst 1, 1) := by decide +kernel
theorem dX7_readCell_10 : decode cX7_readCell 10 = .ok (.isub, 1) := by decide +kernel
theorem dX7_readCell_11 : decode cX7_readCell 11 = .ok (.invokevirtual 211, 3) := by decide +kernel
theorem dX7_readCell_14 : decode cX7_readCell 14 = .ok (.istore_n 3, 1) := by decide +kernel
theorem dX7_readCell_15 : decode cX7_readCell 15 = .ok (.iload_n 3, 1) := by decide +kernel
theorem dX7_readCell_16 : decode cX7_readCell 16 = .ok (.iconst (-1), 1) := by decide +kernel
theorem dX7_readCell_17 : decode cX7_readCell 17 = .ok (.if_icmp .ne 5, 3) := by decide +kernel
theorem dX7_readCell_20 : decode cX7_readCell 20 = .ok (.iconst (-1), 1) := by decide +kernel
theorem dX7_readCell_21 : decode cX7_readCell 21 = .ok (.ireturn, 1) := by decide +kernel
theorem dX7_readCell_22 : decode cX7_readCell 22 = .ok (.aload_n 0, 1) := by decide +kernel
theorem dX7_readCell_23 : decode cX7_readCell 23 = .ok (.getfield 12, 3) := by decide +kernel
theorem dX7_readCell_26 : decode cX7_readCell 26 = .ok (.invokevirtual 128, 3) := by decide +kernel
theorem dX7_readCell_29 : decode cX7_readCell 29 = .ok (.aload_n 0, 1) := by decide +kernel
theorem dX7_readCell_30 : decode cX7_readCell 30 = .ok (.iconst 0, 1) := by decide +kernel
theorem dX7_readCell_31 : decode cX7_readCell 31 = .ok (.aload_n 0, 1) := by decide +kernel
theorem dX7_readCell_32 : decode cX7_readCell 32 = .ok (.getfield 25, 3) := by decide +kernel
theorem dX7_readCell_35 : decode cX7_readCell 35 = .ok (.getfield 138, 3) := by decide +kernel
theorem dX7_readCell_38 : decode cX7_readCell 38 = .ok (.iconst 1, 1) := by decide +kernel
theorem dX7_readCell_39 : decode cX7_readCell 39 = .ok (.isub, 1) := by decide +kernel
theorem dX7_readCell_40 : decode cX7_readCell 40 = .ok (.invokevirtual 211, 3) := by decide +kernel
theorem dX7_readCell_43 : decode cX7_readCell 43 = .ok (.istore 4, 2) := by decide +kernel
theorem dX7_readCell_45 : decode cX7_readCell 45 = .ok (.iload 4, 2) := by decide +kernel
theorem dX7_readCell_47 : decode cX7_readCell 47 = .ok (.iconst (-1), 1) := by decide +kernel
theorem dX7_readCell_48 : decode cX7_readCell 48 = .ok (.if_icmp .ne 5, 3) := by decide +kernel
theorem dX7_readCell_51 : decode cX7_readCell 51 = .ok (.iconst (-1), 1) := by decide +kernel
theorem dX7_readCell_52 : decode cX7_readCell 52 = .ok (.ireturn, 1) := by decide +kernel
theorem dX7_readCell_53 : decode cX7_readCell 53 = .ok (.aload_n 0, 1) := by decide +kernel
theorem dX7_readCell_54 : decode cX7_readCell 54 = .ok (.getfield 25, 3) := by decide +kernel
theorem dX7_readCell_57 : decode cX7_readCell 57 = .ok (.getfield 135, 3) := by decide +kernel
theorem dX7_readCell_60 : decode cX7_readCell 60 = .ok (.iload 4, 2) := by decide +kernel
theorem dX7_readCell_62 : decode cX7_readCell 62 = .ok (.imul, 1) := by decide +kernel
theorem dX7_readCell_63 : decode cX7_readCell 63 = .ok (.iload_n 3, 1) := by decide +kernel
theorem dX7_readCell_64 : decode cX7_readCell 64 = .ok (.iadd, 1) := by decide +kernel
theorem dX7_readCell_65 : decode cX7_readCell 65 = .ok (.istore 5, 2) := by decide +kernel
theorem dX7_readCell_67 : decode cX7_readCell 67 = .ok (.aload_n 0, 1) := by decide +kernel
theorem dX7_readCell_68 : decode cX7_readCell 68 = .ok (.getfield 18, 3) := by decide +kernel
theorem dX7_readCell_71 : decode cX7_readCell 71 = .ok (.iload 5, 2) := by decide +kernel
theorem dX7_readCell_73 : decode cX7_readCell 73 = .ok (.iaload, 1) := by decide +kernel
theorem dX7_readCell_74 : decode cX7_readCell 74 = .ok (.iload_n 2, 1) := by decide +kernel
theorem dX7_readCell_75 : decode cX7_readCell 75 = .ok (.iand, 1) := by decide +kernel
theorem dX7_readCell_76 : decode cX7_readCell 76 = .ok (.ifCond .eq 11, 3) := by decide +kernel
theorem dX7_readCell_79 : decode cX7_readCell 79 = .ok (.aload_n 0, 1) := by decide +kernel
theorem dX7_readCell_80 : decode cX7_readCell 80 = .ok (.iconst 4, 1) := by decide +kernel
theorem dX7_readCell_81 : decode cX7_readCell 81 = .ok (.invokevirtual 124, 3) := by decide +kernel
theorem dX7_readCell_84 : decode cX7_readCell 84 = .ok (.pop, 1) := by decide +kernel
theorem dX7_readCell_85 : decode cX7_readCell 85 = .ok (.iconst (-1), 1) := by decide +kernel
theorem dX7_readCell_86 : decode cX7_readCell 86 = .ok (.ireturn, 1) := by decide +kernel
theorem dX7_readCell_87 : decode cX7_readCell 87 = .ok (.aload_n 0, 1) := by decide +kernel
theorem dX7_readCell_88 : decode cX7_readCell 88 = .ok (.getfield 18, 3) := by decide +kernel
theorem dX7_readCell_91 : decode cX7_readCell 91 = .ok (.iload 5, 2) := by decide +kernel
theorem dX7_readCell_93 : decode cX7_readCell 93 = .ok (.dup2, 1) := by decide +kernel
theorem dX7_readCell_94 : decode cX7_readCell 94 = .ok (.iaload, 1) := by decide +kernel
theorem dX7_readCell_95 : decode cX7_readCell 95 = .ok (.iload_n 1, 1) := by decide +kernel
theorem dX7_readCell_96 : decode cX7_readCell 96 = .ok (.ior, 1) := by decide +kernel
theorem dX7_readCell_97 : decode cX7_readCell 97 = .ok (.iastore, 1) := by decide +kernel
theorem dX7_readCell_98 : decode cX7_readCell 98 = .ok (.aload_n 0, 1) := by decide +kernel
theorem dX7_readCell_99 : decode cX7_readCell 99 = .ok (.getfield 12, 3) := by decide +kernel
theorem dX7_readCell_102 : decode cX7_readCell 102 = .ok (.invokevirtual 128, 3) := by decide +kernel
theorem dX7_readCell_105 : decode cX7_readCell 105 = .ok (.iload 5, 2) := by decide +kernel
theorem dX7_readCell_107 : decode cX7_readCell 107 = .ok (.ireturn, 1) := by decide +kernel
theorem dX7_isWordOf_0 : decode cX7_isWordOf 0 = .ok (.aload_n 0, 1) := by decide +kernel
theorem dX7_isWordOf_1 : decode cX7_isWordOf 1 = .ok (.getfield 12, 3) := by decide +kernel
theorem dX7_isWordOf_4 : decode cX7_isWordOf 4 = .ok (.getfield 80, 3) := by decide +kernel
theorem dX7_isWordOf_7 : decode cX7_isWordOf 7 = .ok (.iconst 2, 1) := by decide +kernel
theorem dX7_isWordOf_8 : decode cX7_isWordOf 8 = .ok (.if_icmp .eq 9, 3) := by decide +kernel
theorem dX7_isWordOf_11 : decode cX7_isWordOf 11 = .ok (.aload_n 0, 1) := by decide +kernel
theorem dX7_isWordOf_12 : decode cX7_isWordOf 12 = .ok (.iconst 1, 1) := by decide +kernel
theorem dX7_isWordOf_13 : decode cX7_isWordOf 13 = .ok (.invokevirtual 124, 3) := by decide +kernel
theorem dX7_isWordOf_16 : decode cX7_isWordOf 16 = .ok (.ireturn, 1) := by decide +kernel
theorem dX7_isWordOf_17 : decode cX7_isWordOf 17 = .ok (.iconst 0, 1) := by decide +kernel
theorem dX7_isWordOf_18 : decode cX7_isWordOf 18 = .ok (.istore_n 3, 1) := by decide +kernel
theorem dX7_isWordOf_19 : decode cX7_isWordOf 19 = .ok (.iload_n 3, 1) := by decide +kernel
theorem dX7_isWordOf_20 : decode cX7_isWordOf 20 = .ok (.aload_n 0, 1) := by decide +kernel
theorem dX7_isWordOf_21 : decode cX7_isWordOf 21 = .ok (.getfield 12, 3) := by decide +kernel
theorem dX7_isWordOf_24 : decode cX7_isWordOf 24 = .ok (.invokevirtual 214, 3) := by decide +kernel
theorem dX7_isWordOf_27 : decode cX7_isWordOf 27 = .ok (.if_icmp .ge 30, 3) := by decide +kernel
theorem dX7_isWordOf_30 : decode cX7_isWordOf 30 = .ok (.aload_n 1, 1) := by decide +kernel
theorem dX7_isWordOf_31 : decode cX7_isWordOf 31 = .ok (.aload_n 0, 1) := by decide +kernel
theorem dX7_isWordOf_32 : decode cX7_isWordOf 32 = .ok (.getfield 12, 3) := by decide +kernel
theorem dX7_isWordOf_35 : decode cX7_isWordOf 35 = .ok (.iload_n 3, 1) := by decide +kernel
theorem dX7_isWordOf_36 : decode cX7_isWordOf 36 = .ok (.invokevirtual 218, 3) := by decide +kernel
theorem dX7_isWordOf_39 : decode cX7_isWordOf 39 = .ok (.invokevirtual 222, 3) := by decide +kernel
theorem dX7_isWordOf_42 : decode cX7_isWordOf 42 = .ok (.ifCond .ge 9, 3) := by decide +kernel
theorem dX7_isWordOf_45 : decode cX7_isWordOf 45 = .ok (.aload_n 0, 1) := by decide +kernel
theorem dX7_isWordOf_46 : decode cX7_isWordOf 46 = .ok (.iconst 3, 1) := by decide +kernel
theorem dX7_isWordOf_47 : decode cX7_isWordOf 47 = .ok (.invokevirtual 124, 3) := by decide +kernel
theorem dX7_isWordOf_50 : decode cX7_isWordOf 50 = .ok (.ireturn, 1) := by decide +kernel
theorem dX7_isWordOf_51 : decode cX7_isWordOf 51 = .ok (.iinc 3 1, 3) := by decide +kernel
theorem dX7_isWordOf_54 : decode cX7_isWordOf 54 = .ok (.goto (-35), 3) := by decide +kernel
theorem dX7_isWordOf_57 : decode cX7_isWordOf 57 = .ok (.aload_n 0, 1) := by decide +kernel
theorem dX7_isWordOf_58 : decode cX7_isWordOf 58 = .ok (.getfield 12, 3) := by decide +kernel
theorem dX7_isWordOf_61 : decode cX7_isWordOf 61 = .ok (.invokevirtual 214, 3) := by decide +kernel
theorem dX7_isWordOf_64 : decode cX7_isWordOf 64 = .ok (.iload_n 2, 1) := by decide +kernel
theorem dX7_isWordOf_65 : decode cX7_isWordOf 65 = .ok (.if_icmp .le 11, 3) := by decide +kernel
theorem dX7_isWordOf_68 : decode cX7_isWordOf 68 = .ok (.aload_n 0, 1) := by decide +kernel
theorem dX7_isWordOf_69 : decode cX7_isWordOf 69 = .ok (.iconst 2, 1) := by decide +kernel
theorem dX7_isWordOf_70 : decode cX7_isWordOf 70 = .ok (.invokevirtual 124, 3) := by decide +kernel
theorem dX7_isWordOf_73 : decode cX7_isWordOf 73 = .ok (.ifCond .eq 7, 3) := by decide +kernel
theorem dX7_isWordOf_76 : decode cX7_isWordOf 76 = .ok (.iconst 1, 1) := by decide +kernel
theorem dX7_isWordOf_77 : decode cX7_isWordOf 77 = .ok (.goto 4, 3) := by decide +kernel
theorem dX7_isWordOf_80 : decode cX7_isWordOf 80 = .ok (.iconst 0, 1) := by decide +kernel
theorem dX7_isWordOf_81 : decode cX7_isWordOf 81 = .ok (.ireturn, 1) := by decide +kernel
theorem dX7_readWay_0 : decode cX7_readWay 0 = .ok (.aload_n 0, 1) := by decide +kernel
theorem dX7_readWay_1 : decode cX7_readWay 1 = .ok (.ldc 227, 2) := by decide +kernel
theorem dX7_readWay_3 : decode cX7_readWay 3 = .ok (.bipush 12, 2) := by decide +kernel
theorem dX7_readWay_5 : decode cX7_readWay 5 = .ok (.invokevirtual 229, 3) := by decide +kernel
theorem dX7_readWay_8 : decode cX7_readWay 8 = .ok (.ifCond .ne 5, 3) := by decide +kernel
theorem dX7_readWay_11 : decode cX7_readWay 11 = .ok (.iconst 0, 1) := by decide +kernel
theorem dX7_readWay_12 : decode cX7_readWay 12 = .ok (.ireturn, 1) := by decide +kernel
theorem dX7_readWay_13 : decode cX7_readWay 13 = .ok (.aload_n 0, 1) := by decide +kernel
theorem dX7_readWay_14 : decode cX7_readWay 14 = .ok (.getfield 25, 3) := by decide +kernel
theorem dX7_readWay_17 : decode cX7_readWay 17 = .ok (.getfield 233, 3) := by decide +kernel
theorem dX7_readWay_20 : decode cX7_readWay 20 = .ok (.iload_n 1, 1) := by decide +kernel
theorem dX7_readWay_21 : decode cX7_readWay 21 = .ok (.aload_n 0, 1) := by decide +kernel
theorem dX7_readWay_22 : decode cX7_readWay 22 = .ok (.getfield 12, 3) := by decide +kernel
theorem dX7_readWay_25 : decode cX7_readWay 25 = .ok (.invokevirtual 214, 3) := by decide +kernel
theorem dX7_readWay_28 : decode cX7_readWay 28 = .ok (.iastore, 1) := by decide +kernel
theorem dX7_readWay_29 : decode cX7_readWay 29 = .ok (.iconst 0, 1) := by decide +kernel
theorem dX7_readWay_30 : decode cX7_readWay 30 = .ok (.istore_n 2, 1) := by decide +kernel
theorem dX7_readWay_31 : decode cX7_readWay 31 = .ok (.iload_n 2, 1) := by decide +kernel
theorem dX7_readWay_32 : decode cX7_readWay 32 = .ok (.bipush 12, 2) := by decide +kernel
theorem dX7_readWay_34 : decode cX7_readWay 34 = .ok (.if_icmp .ge 47, 3) := by decide +kernel
theorem dX7_readWay_37 : decode cX7_readWay 37 = .ok (.iload_n 2, 1) := by decide +kernel
theorem dX7_readWay_38 : decode cX7_readWay 38 = .ok (.aload_n 0, 1) := by decide +kernel
theorem dX7_readWay_39 : decode cX7_readWay 39 = .ok (.getfield 12, 3) := by decide +kernel
theorem dX7_readWay_42 : decode cX7_readWay 42 = .ok (.invokevirtual 214, 3) := by decide +kernel
theorem dX7_readWay_45 : decode cX7_readWay 45 = .ok (.if_icmp .ge 36, 3) := by decide +kernel
theorem dX7_readWay_48 : decode cX7_readWay 48 = .ok (.aload_n 0, 1) := by decide +kernel
theorem dX7_readWay_49 : decode cX7_readWay 49 = .ok (.getfield 25, 3) := by decide +kernel
theorem dX7_readWay_52 : decode cX7_readWay 52 = .ok (.getfield 236, 3) := by decide +kernel
theorem dX7_readWay_55 : decode cX7_readWay 55 = .ok (.iload_n 1, 1) := by decide +kernel
theorem dX7_readWay_56 : decode cX7_readWay 56 = .ok (.bipush 12, 2) := by decide +kernel
theorem dX7_readWay_58 : decode cX7_readWay 58 = .ok (.imul, 1) := by decide +kernel
theorem dX7_readWay_59 : decode cX7_readWay 59 = .ok (.iload_n 2, 1) := by decide +kernel
theorem dX7_readWay_60 : decode cX7_readWay 60 = .ok (.iadd, 1) := by decide +kernel
theorem dX7_readWay_61 : decode cX7_readWay 61 = .ok (.ldc 227, 2) := by decide +kernel
theorem dX7_readWay_63 : decode cX7_readWay 63 = .ok (.aload_n 0, 1) := by decide +kernel
theorem dX7_readWay_64 : decode cX7_readWay 64 = .ok (.getfield 12, 3) := by decide +kernel
theorem dX7_readWay_67 : decode cX7_readWay 67 = .ok (.iload_n 2, 1) := by decide +kernel
theorem dX7_readWay_68 : decode cX7_readWay 68 = .ok (.invokevirtual 218, 3) := by decide +kernel
theorem dX7_readWay_71 : decode cX7_readWay 71 = .ok (.invokevirtual 222, 3) := by decide +kernel
theorem dX7_readWay_74 : decode cX7_readWay 74 = .ok (.iastore, 1) := by decide +kernel
theorem dX7_readWay_75 : decode cX7_readWay 75 = .ok (.iinc 2 1, 3) := by decide +kernel
theorem dX7_readWay_78 : decode cX7_readWay 78 = .ok (.goto (-47), 3) := by decide +kernel
theorem dX7_readWay_81 : decode cX7_readWay 81 = .ok (.aload_n 0, 1) := by decide +kernel
theorem dX7_readWay_82 : decode cX7_readWay 82 = .ok (.getfield 12, 3) := by decide +kernel
theorem dX7_readWay_85 : decode cX7_readWay 85 = .ok (.invokevirtual 128, 3) := by decide +kernel
theorem dX7_readWay_88 : decode cX7_readWay 88 = .ok (.iconst 1, 1) := by decide +kernel
theorem dX7_readWay_89 : decode cX7_readWay 89 = .ok (.ireturn, 1) := by decide +kernel
theorem dX7_readFlashes_0 : decode cX7_readFlashes 0 = .ok (.aload_n 0, 1) := by decide +kernel
theorem dX7_readFlashes_1 : decode cX7_readFlashes 1 = .ok (.ldc 239, 2) := by decide +kernel
theorem dX7_readFlashes_3 : decode cX7_readFlashes 3 = .ok (.bipush 6, 2) := by decide +kernel
theorem dX7_readFlashes_5 : decode cX7_readFlashes 5 = .ok (.invokevirtual 229, 3) := by decide +kernel
theorem dX7_readFlashes_8 : decode cX7_readFlashes 8 = .ok (.ifCond .ne 5, 3) := by decide +kernel
theorem dX7_readFlashes_11 : decode cX7_readFlashes 11 = .ok (.iconst 0, 1) := by decide +kernel
theorem dX7_readFlashes_12 : decode cX7_readFlashes 12 = .ok (.ireturn, 1) := by decide +kernel
theorem dX7_readFlashes_13 : decode cX7_readFlashes 13 = .ok (.aload_n 0, 1) := by decide +kernel
theorem dX7_readFlashes_14 : decode cX7_readFlashes 14 = .ok (.getfield 25, 3) := by decide +kernel
theorem dX7_readFlashes_17 : decode cX7_readFlashes 17 = .ok (.getfield 241, 3) := by decide +kernel
theorem dX7_readFlashes_20 : decode cX7_readFlashes 20 = .ok (.iload_n 1, 1) := by decide +kernel
theorem dX7_readFlashes_21 : decode cX7_readFlashes 21 = .ok (.aload_n 0, 1) := by decide +kernel
theorem dX7_readFlashes_22 : decode cX7_readFlashes 22 = .ok (.getfield 12, 3) := by decide +kernel
theorem dX7_readFlashes_25 : decode cX7_readFlashes 25 = .ok (.invokevirtual 214, 3) := by decide +kernel
theorem dX7_readFlashes_28 : decode cX7_readFlashes 28 = .ok (.iastore, 1) := by decide +kernel
theorem dX7_readFlashes_29 : decode cX7_readFlashes 29 = .ok (.aload_n 0, 1) := by decide +kernel
theorem dX7_readFlashes_30 : decode cX7_readFlashes 30 = .ok (.getfield 25, 3) := by decide +kernel
theorem dX7_readFlashes_33 : decode cX7_readFlashes 33 = .ok (.getfield 244, 3) := by decide +kernel
theorem dX7_readFlashes_36 : decode cX7_readFlashes 36 = .ok (.iload_n 1, 1) := by decide +kernel
theorem dX7_readFlashes_37 : decode cX7_readFlashes 37 = .ok (.iconst 0, 1) := by decide +kernel
theorem dX7_readFlashes_38 : decode cX7_readFlashes 38 = .ok (.iastore, 1) := by decide +kernel
theorem dX7_readFlashes_39 : decode cX7_readFlashes 39 = .ok (.iconst 0, 1) := by decide +kernel
theorem dX7_readFlashes_40 : decode cX7_readFlashes 40 = .ok (.istore_n 2, 1) := by decide +kernel
theorem dX7_readFlashes_41 : decode cX7_readFlashes 41 = .ok (.iload_n 2, 1) := by decide +kernel
theorem dX7_readFlashes_42 : decode cX7_readFlashes 42 = .ok (.bipush 6, 2) := by decide +kernel
theorem dX7_readFlashes_44 : decode cX7_readFlashes 44 = .ok (.if_icmp .ge 48, 3) := by decide +kernel
theorem dX7_readFlashes_47 : decode cX7_readFlashes 47 = .ok (.iload_n 2, 1) := by decide +kernel
theorem dX7_readFlashes_48 : decode cX7_readFlashes 48 = .ok (.aload_n 0, 1) := by decide +kernel
theorem dX7_readFlashes_49 : decode cX7_readFlashes 49 = .ok (.getfield 12, 3) := by decide +kernel
theorem dX7_readFlashes_52 : decode cX7_readFlashes 52 = .ok (.invokevirtual 214, 3) := by decide +kernel
theorem dX7_readFlashes_55 : decode cX7_readFlashes 55 = .ok (.if_icmp .ge 37, 3) := by decide +kernel
theorem dX7_readFlashes_58 : decode cX7_readFlashes 58 = .ok (.aload_n 0, 1) := by decide +kernel
theorem dX7_readFlashes_59 : decode cX7_readFlashes 59 = .ok (.getfield 12, 3) := by decide +kernel
theorem dX7_readFlashes_62 : decode cX7_readFlashes 62 = .ok (.iload_n 2, 1) := by decide +kernel
theorem dX7_readFlashes_63 : decode cX7_readFlashes 63 = .ok (.invokevirtual 218, 3) := by decide +kernel
theorem dX7_readFlashes_66 : decode cX7_readFlashes 66 = .ok (.bipush 108, 2) := by decide +kernel
theorem dX7_readFlashes_68 : decode cX7_readFlashes 68 = .ok (.if_icmp .ne 18, 3) := by decide +kernel
theorem dX7_readFlashes_71 : decode cX7_readFlashes 71 = .ok (.aload_n 0, 1) := by decide +kernel
theorem dX7_readFlashes_72 : decode cX7_readFlashes 72 = .ok (.getfield 25, 3) := by decide +kernel
theorem dX7_readFlashes_75 : decode cX7_readFlashes 75 = .ok (.getfield 244, 3) := by decide +kernel
theorem dX7_readFlashes_78 : decode cX7_readFlashes 78 = .ok (.iload_n 1, 1) := by decide +kernel
theorem dX7_readFlashes_79 : decode cX7_readFlashes 79 = .ok (.dup2, 1) := by decide +kernel
theorem dX7_readFlashes_80 : decode cX7_readFlashes 80 = .ok (.iaload, 1) := by decide +kernel
theorem dX7_readFlashes_81 : decode cX7_readFlashes 81 = .ok (.iconst 1, 1) := by decide +kernel
theorem dX7_readFlashes_82 : decode cX7_readFlashes 82 = .ok (.iload_n 2, 1) := by decide +kernel
theorem dX7_readFlashes_83 : decode cX7_readFlashes 83 = .ok (.ishl, 1) := by decide +kernel
theorem dX7_readFlashes_84 : decode cX7_readFlashes 84 = .ok (.ior, 1) := by decide +kernel
theorem dX7_readFlashes_85 : decode cX7_readFlashes 85 = .ok (.iastore, 1) := by decide +kernel
theorem dX7_readFlashes_86 : decode cX7_readFlashes 86 = .ok (.iinc 2 1, 3) := by decide +kernel
theorem dX7_readFlashes_89 : decode cX7_readFlashes 89 = .ok (.goto (-48), 3) := by decide +kernel
theorem dX7_readFlashes_92 : decode cX7_readFlashes 92 = .ok (.aload_n 0, 1) := by decide +kernel
theorem dX7_readFlashes_93 : decode cX7_readFlashes 93 = .ok (.getfield 12, 3) := by decide +kernel
theorem dX7_readFlashes_96 : decode cX7_readFlashes 96 = .ok (.invokevirtual 128, 3) := by decide +kernel
theorem dX7_readFlashes_99 : decode cX7_readFlashes 99 = .ok (.iconst 1, 1) := by decide +kernel
theorem dX7_readFlashes_100 : decode cX7_readFlashes 100 = .ok (.ireturn, 1) := by decide +kernel
theorem dX7_canBeginExpr_0 : decode cX7_canBeginExpr 0 = .ok (.aload_n 0, 1) := by decide +kernel
theorem dX7_canBeginExpr_1 : decode cX7_canBeginExpr 1 = .ok (.getfield 12, 3) := by decide +kernel
theorem dX7_canBeginExpr_4 : decode cX7_canBeginExpr 4 = .ok (.getfield 80, 3) := by decide +kernel
theorem dX7_canBeginExpr_7 : decode cX7_canBeginExpr 7 = .ok (.iconst 3, 1) := by decide +kernel
theorem dX7_canBeginExpr_8 : decode cX7_canBeginExpr 8 = .ok (.if_icmp .eq 26, 3) := by decide +kernel
theorem dX7_canBeginExpr_11 : decode cX7_canBeginExpr 11 = .ok (.aload_n 0, 1) := by decide +kernel
theorem dX7_canBeginExpr_12 : decode cX7_canBeginExpr 12 = .ok (.getfield 12, 3) := by decide +kernel
theorem dX7_canBeginExpr_15 : decode cX7_canBeginExpr 15 = .ok (.getfield 80, 3) := by decide +kernel
theorem dX7_canBeginExpr_18 : decode cX7_canBeginExpr 18 = .ok (.iconst 2, 1) := by decide +kernel
theorem dX7_canBeginExpr_19 : decode cX7_canBeginExpr 19 = .ok (.if_icmp .eq 15, 3) := by decide +kernel
theorem dX7_canBeginExpr_22 : decode cX7_canBeginExpr 22 = .ok (.aload_n 0, 1) := by decide +kernel
theorem dX7_canBeginExpr_23 : decode cX7_canBeginExpr 23 = .ok (.getfield 12, 3) := by decide +kernel
theorem dX7_canBeginExpr_26 : decode cX7_canBeginExpr 26 = .ok (.getfield 80, 3) := by decide +kernel
theorem dX7_canBeginExpr_29 : decode cX7_canBeginExpr 29 = .ok (.bipush 40, 2) := by decide +kernel
theorem dX7_canBeginExpr_31 : decode cX7_canBeginExpr 31 = .ok (.if_icmp .ne 7, 3) := by decide +kernel
theorem dX7_canBeginExpr_34 : decode cX7_canBeginExpr 34 = .ok (.iconst 1, 1) := by decide +kernel
theorem dX7_canBeginExpr_35 : decode cX7_canBeginExpr 35 = .ok (.goto 4, 3) := by decide +kernel
theorem dX7_canBeginExpr_38 : decode cX7_canBeginExpr 38 = .ok (.iconst 0, 1) := by decide +kernel
theorem dX7_canBeginExpr_39 : decode cX7_canBeginExpr 39 = .ok (.ireturn, 1) := by decide +kernel
theorem dX7_readExpr_0 : decode cX7_readExpr 0 = .ok (.iload_n 1, 1) := by decide +kernel
theorem dX7_readExpr_1 : decode cX7_readExpr 1 = .ok (.bipush 6, 2) := by decide +kernel
theorem dX7_readExpr_3 : decode cX7_readExpr 3 = .ok (.if_icmp .lt 20, 3) := by decide +kernel
theorem dX7_readExpr_6 : decode cX7_readExpr 6 = .ok (.aload_n 0, 1) := by decide +kernel
theorem dX7_readExpr_7 : decode cX7_readExpr 7 = .ok (.aload_n 0, 1) := by decide +kernel
theorem dX7_readExpr_8 : decode cX7_readExpr 8 = .ok (.invokevirtual 247, 3) := by decide +kernel
theorem dX7_readExpr_11 : decode cX7_readExpr 11 = .ok (.ifCond .eq 7, 3) := by decide +kernel
theorem dX7_readExpr_14 : decode cX7_readExpr 14 = .ok (.iconst 2, 1) := by decide +kernel
theorem dX7_readExpr_15 : decode cX7_readExpr 15 = .ok (.goto 4, 3) := by decide +kernel
theorem dX7_readExpr_18 : decode cX7_readExpr 18 = .ok (.iconst 1, 1) := by decide +kernel
theorem dX7_readExpr_19 : decode cX7_readExpr 19 = .ok (.invokevirtual 124, 3) := by decide +kernel
theorem dX7_readExpr_22 : decode cX7_readExpr 22 = .ok (.ireturn, 1) := by decide +kernel
theorem dX7_readExpr_23 : decode cX7_readExpr 23 = .ok (.aload_n 0, 1) := by decide +kernel
theorem dX7_readExpr_24 : decode cX7_readExpr 24 = .ok (.iload_n 1, 1) := by decide +kernel
theorem dX7_readExpr_25 : decode cX7_readExpr 25 = .ok (.invokevirtual 250, 3) := by decide +kernel
theorem dX7_readExpr_28 : decode cX7_readExpr 28 = .ok (.ifCond .ne 5, 3) := by decide +kernel
theorem dX7_readExpr_31 : decode cX7_readExpr 31 = .ok (.iconst 0, 1) := by decide +kernel
theorem dX7_readExpr_32 : decode cX7_readExpr 32 = .ok (.ireturn, 1) := by decide +kernel
theorem dX7_readExpr_33 : decode cX7_readExpr 33 = .ok (.iconst 0, 1) := by decide +kernel
theorem dX7_readExpr_34 : decode cX7_readExpr 34 = .ok (.istore_n 2, 1) := by decide +kernel
theorem dX7_readExpr_35 : decode cX7_readExpr 35 = .ok (.iload_n 2, 1) := by decide +kernel
theorem dX7_readExpr_36 : decode cX7_readExpr 36 = .ok (.sipush 700, 3) := by decide +kernel
theorem dX7_readExpr_39 : decode cX7_readExpr 39 = .ok (.if_icmp .ge 50, 3) := by decide +kernel
theorem dX7_readExpr_42 : decode cX7_readExpr 42 = .ok (.aload_n 0, 1) := by decide +kernel
theorem dX7_readExpr_43 : decode cX7_readExpr 43 = .ok (.getfield 12, 3) := by decide +kernel
theorem dX7_readExpr_46 : decode cX7_readExpr 46 = .ok (.ldc 253, 2) := by decide +kernel
theorem dX7_readExpr_48 : decode cX7_readExpr 48 = .ok (.invokevirtual 72, 3) := by decide +kernel
theorem dX7_readExpr_51 : decode cX7_readExpr 51 = .ok (.ifCond .eq 38, 3) := by decide +kernel
theorem dX7_readExpr_54 : decode cX7_readExpr 54 = .ok (.aload_n 0, 1) := by decide +kernel
theorem dX7_readExpr_55 : decode cX7_readExpr 55 = .ok (.getfield 12, 3) := by decide +kernel
theorem dX7_readExpr_58 : decode cX7_readExpr 58 = .ok (.invokevirtual 128, 3) := by decide +kernel
theorem dX7_readExpr_61 : decode cX7_readExpr 61 = .ok (.aload_n 0, 1) := by decide +kernel
theorem dX7_readExpr_62 : decode cX7_readExpr 62 = .ok (.iload_n 1, 1) := by decide +kernel
theorem dX7_readExpr_63 : decode cX7_readExpr 63 = .ok (.invokevirtual 250, 3) := by decide +kernel
theorem dX7_readExpr_66 : decode cX7_readExpr 66 = .ok (.ifCond .ne 5, 3) := by decide +kernel
theorem dX7_readExpr_69 : decode cX7_readExpr 69 = .ok (.iconst 0, 1) := by decide +kernel
theorem dX7_readExpr_70 : decode cX7_readExpr 70 = .ok (.ireturn, 1) := by decide +kernel
theorem dX7_readExpr_71 : decode cX7_readExpr 71 = .ok (.aload_n 0, 1) := by decide +kernel
theorem dX7_readExpr_72 : decode cX7_readExpr 72 = .ok (.getfield 25, 3) := by decide +kernel
theorem dX7_readExpr_75 : decode cX7_readExpr 75 = .ok (.getfield 86, 3) := by decide +kernel
theorem dX7_readExpr_78 : decode cX7_readExpr 78 = .ok (.bipush (-8), 2) := by decide +kernel
theorem dX7_readExpr_80 : decode cX7_readExpr 80 = .ok (.invokevirtual 255, 3) := by decide +kernel
theorem dX7_readExpr_83 : decode cX7_readExpr 83 = .ok (.iinc 2 1, 3) := by decide +kernel
theorem dX7_readExpr_86 : decode cX7_readExpr 86 = .ok (.goto (-51), 3) := by decide +kernel
theorem dX7_readExpr_89 : decode cX7_readExpr 89 = .ok (.iconst 1, 1) := by decide +kernel
theorem dX7_readExpr_90 : decode cX7_readExpr 90 = .ok (.ireturn, 1) := by decide +kernel
theorem dX7_readAnd_0 : decode cX7_readAnd 0 = .ok (.aload_n 0, 1) := by decide +kernel
theorem dX7_readAnd_1 : decode cX7_readAnd 1 = .ok (.iload_n 1, 1) := by decide +kernel
theorem dX7_readAnd_2 : decode cX7_readAnd 2 = .ok (.invokevirtual 259, 3) := by decide +kernel
theorem dX7_readAnd_5 : decode cX7_readAnd 5 = .ok (.ifCond .ne 5, 3) := by decide +kernel
theorem dX7_readAnd_8 : decode cX7_readAnd 8 = .ok (.iconst 0, 1) := by decide +kernel
theorem dX7_readAnd_9 : decode cX7_readAnd 9 = .ok (.ireturn, 1) := by decide +kernel
theorem dX7_readAnd_10 : decode cX7_readAnd 10 = .ok (.iconst 0, 1) := by decide +kernel
theorem dX7_readAnd_11 : decode cX7_readAnd 11 = .ok (.istore_n 2, 1) := by decide +kernel
theorem dX7_readAnd_12 : decode cX7_readAnd 12 = .ok (.iload_n 2, 1) := by decide +kernel
theorem dX7_readAnd_13 : decode cX7_readAnd 13 = .ok (.sipush 700, 3) := by decide +kernel
theorem dX7_readAnd_16 : decode cX7_readAnd 16 = .ok (.if_icmp .ge 51, 3) := by decide +kernel
theorem dX7_readAnd_19 : decode cX7_readAnd 19 = .ok (.aload_n 0, 1) := by decide +kernel
theorem dX7_readAnd_20 : decode cX7_readAnd 20 = .ok (.getfield 12, 3) := by decide +kernel
theorem dX7_readAnd_23 : decode cX7_readAnd 23 = .ok (.ldc_w 262, 3) := by decide +kernel
theorem dX7_readAnd_26 : decode cX7_readAnd 26 = .ok (.invokevirtual 72, 3) := by decide +kernel
theorem dX7_readAnd_29 : decode cX7_readAnd 29 = .ok (.ifCond .eq 38, 3) := by decide +kernel
theorem dX7_readAnd_32 : decode cX7_readAnd 32 = .ok (.aload_n 0, 1) := by decide +kernel
theorem dX7_readAnd_33 : decode cX7_readAnd 33 = .ok (.getfield 12, 3) := by decide +kernel
theorem dX7_readAnd_36 : decode cX7_readAnd 36 = .ok (.invokevirtual 128, 3) := by decide +kernel
theorem dX7_readAnd_39 : decode cX7_readAnd 39 = .ok (.aload_n 0, 1) := by decide +kernel
theorem dX7_readAnd_40 : decode cX7_readAnd 40 = .ok (.iload_n 1, 1) := by decide +kernel
theorem dX7_readAnd_41 : decode cX7_readAnd 41 = .ok (.invokevirtual 259, 3) := by decide +kernel
theorem dX7_readAnd_44 : decode cX7_readAnd 44 = .ok (.ifCond .ne 5, 3) := by decide +kernel
theorem dX7_readAnd_47 : decode cX7_readAnd 47 = .ok (.iconst 0, 1) := by decide +kernel
theorem dX7_readAnd_48 : decode cX7_readAnd 48 = .ok (.ireturn, 1) := by decide +kernel
theorem dX7_readAnd_49 : decode cX7_readAnd 49 = .ok (.aload_n 0, 1) := by decide +kernel
theorem dX7_readAnd_50 : decode cX7_readAnd 50 = .ok (.getfield 25, 3) := by decide +kernel
theorem dX7_readAnd_53 : decode cX7_readAnd 53 = .ok (.getfield 86, 3) := by decide +kernel
theorem dX7_readAnd_56 : decode cX7_readAnd 56 = .ok (.bipush (-9), 2) := by decide +kernel
theorem dX7_readAnd_58 : decode cX7_readAnd 58 = .ok (.invokevirtual 255, 3) := by decide +kernel
theorem dX7_readAnd_61 : decode cX7_readAnd 61 = .ok (.iinc 2 1, 3) := by decide +kernel
theorem dX7_readAnd_64 : decode cX7_readAnd 64 = .ok (.goto (-52), 3) := by decide +kernel
theorem dX7_readAnd_67 : decode cX7_readAnd 67 = .ok (.iconst 1, 1) := by decide +kernel
theorem dX7_readAnd_68 : decode cX7_readAnd 68 = .ok (.ireturn, 1) := by decide +kernel
theorem dX7_readNot_0 : decode cX7_readNot 0 = .ok (.iconst 0, 1) := by decide +kernel
theorem dX7_readNot_1 : decode cX7_readNot 1 = .ok (.istore_n 2, 1) := by decide +kernel
theorem dX7_readNot_2 : decode cX7_readNot 2 = .ok (.iload_n 2, 1) := by decide +kernel
theorem dX7_readNot_3 : decode cX7_readNot 3 = .ok (.bipush 6, 2) := by decide +kernel
theorem dX7_readNot_5 : decode cX7_readNot 5 = .ok (.if_icmp .ge 29, 3) := by decide +kernel
theorem dX7_readNot_8 : decode cX7_readNot 8 = .ok (.aload_n 0, 1) := by decide +kernel
theorem dX7_readNot_9 : decode cX7_readNot 9 = .ok (.getfield 12, 3) := by decide +kernel
theorem dX7_readNot_12 : decode cX7_readNot 12 = .ok (.ldc_w 264, 3) := by decide +kernel
theorem dX7_readNot_15 : decode cX7_readNot 15 = .ok (.invokevirtual 72, 3) := by decide +kernel
theorem dX7_readNot_18 : decode cX7_readNot 18 = .ok (.ifCond .eq 16, 3) := by decide +kernel
theorem dX7_readNot_21 : decode cX7_readNot 21 = .ok (.aload_n 0, 1) := by decide +kernel
theorem dX7_readNot_22 : decode cX7_readNot 22 = .ok (.getfield 12, 3) := by decide +kernel
theorem dX7_readNot_25 : decode cX7_readNot 25 = .ok (.invokevirtual 128, 3) := by decide +kernel
theorem dX7_readNot_28 : decode cX7_readNot 28 = .ok (.iinc 2 1, 3) := by decide +kernel
theorem dX7_readNot_31 : decode cX7_readNot 31 = .ok (.goto (-29), 3) := by decide +kernel
theorem dX7_readNot_34 : decode cX7_readNot 34 = .ok (.iload_n 2, 1) := by decide +kernel
theorem dX7_readNot_35 : decode cX7_readNot 35 = .ok (.bipush 6, 2) := by decide +kernel
theorem dX7_readNot_37 : decode cX7_readNot 37 = .ok (.if_icmp .ne 22, 3) := by decide +kernel
theorem dX7_readNot_40 : decode cX7_readNot 40 = .ok (.aload_n 0, 1) := by decide +kernel
theorem dX7_readNot_41 : decode cX7_readNot 41 = .ok (.getfield 12, 3) := by decide +kernel
theorem dX7_readNot_44 : decode cX7_readNot 44 = .ok (.ldc_w 264, 3) := by decide +kernel
theorem dX7_readNot_47 : decode cX7_readNot 47 = .ok (.invokevirtual 72, 3) := by decide +kernel
theorem dX7_readNot_50 : decode cX7_readNot 50 = .ok (.ifCond .eq 9, 3) := by decide +kernel
theorem dX7_readNot_53 : decode cX7_readNot 53 = .ok (.aload_n 0, 1) := by decide +kernel
theorem dX7_readNot_54 : decode cX7_readNot 54 = .ok (.iconst 2, 1) := by decide +kernel
theorem dX7_readNot_55 : decode cX7_readNot 55 = .ok (.invokevirtual 124, 3) := by decide +kernel
theorem dX7_readNot_58 : decode cX7_readNot 58 = .ok (.ireturn, 1) := by decide +kernel
theorem dX7_readNot_59 : decode cX7_readNot 59 = .ok (.aload_n 0, 1) := by decide +kernel
theorem dX7_readNot_60 : decode cX7_readNot 60 = .ok (.iload_n 1, 1) := by decide +kernel
theorem dX7_readNot_61 : decode cX7_readNot 61 = .ok (.invokevirtual 266, 3) := by decide +kernel
theorem dX7_readNot_64 : decode cX7_readNot 64 = .ok (.ifCond .ne 5, 3) := by decide +kernel
theorem dX7_readNot_67 : decode cX7_readNot 67 = .ok (.iconst 0, 1) := by decide +kernel
theorem dX7_readNot_68 : decode cX7_readNot 68 = .ok (.ireturn, 1) := by decide +kernel
theorem dX7_readNot_69 : decode cX7_readNot 69 = .ok (.iconst 0, 1) := by decide +kernel
theorem dX7_readNot_70 : decode cX7_readNot 70 = .ok (.istore_n 3, 1) := by decide +kernel
theorem dX7_readNot_71 : decode cX7_readNot 71 = .ok (.iload_n 3, 1) := by decide +kernel
theorem dX7_readNot_72 : decode cX7_readNot 72 = .ok (.iload_n 2, 1) := by decide +kernel
theorem dX7_readNot_73 : decode cX7_readNot 73 = .ok (.if_icmp .ge 21, 3) := by decide +kernel
theorem dX7_readNot_76 : decode cX7_readNot 76 = .ok (.aload_n 0, 1) := by decide +kernel
theorem dX7_readNot_77 : decode cX7_readNot 77 = .ok (.getfield 25, 3) := by decide +kernel
theorem dX7_readNot_80 : decode cX7_readNot 80 = .ok (.getfield 86, 3) := by decide +kernel
theorem dX7_readNot_83 : decode cX7_readNot 83 = .ok (.bipush (-7), 2) := by decide +kernel
theorem dX7_readNot_85 : decode cX7_readNot 85 = .ok (.invokevirtual 255, 3) := by decide +kernel
theorem dX7_readNot_88 : decode cX7_readNot 88 = .ok (.iinc 3 1, 3) := by decide +kernel
theorem dX7_readNot_91 : decode cX7_readNot 91 = .ok (.goto (-20), 3) := by decide +kernel
theorem dX7_readNot_94 : decode cX7_readNot 94 = .ok (.iconst 1, 1) := by decide +kernel
theorem dX7_readNot_95 : decode cX7_readNot 95 = .ok (.ireturn, 1) := by decide +kernel
theorem dX7_readTest_0 : decode cX7_readTest 0 = .ok (.aload_n 0, 1) := by decide +kernel
theorem dX7_readTest_1 : decode cX7_readTest 1 = .ok (.iload_n 1, 1) := by decide +kernel
theorem dX7_readTest_2 : decode cX7_readTest 2 = .ok (.invokevirtual 269, 3) := by decide +kernel
theorem dX7_readTest_5 : decode cX7_readTest 5 = .ok (.ifCond .ne 5, 3) := by decide +kernel
theorem dX7_readTest_8 : decode cX7_readTest 8 = .ok (.iconst 0, 1) := by decide +kernel
theorem dX7_readTest_9 : decode cX7_readTest 9 = .ok (.ireturn, 1) := by decide +kernel
theorem dX7_readTest_10 : decode cX7_readTest 10 = .ok (.aload_n 0, 1) := by decide +kernel
theorem dX7_readTest_11 : decode cX7_readTest 11 = .ok (.getfield 12, 3) := by decide +kernel
theorem dX7_readTest_14 : decode cX7_readTest 14 = .ok (.getfield 80, 3) := by decide +kernel
theorem dX7_readTest_17 : decode cX7_readTest 17 = .ok (.istore_n 2, 1) := by decide +kernel
theorem dX7_readTest_18 : decode cX7_readTest 18 = .ok (.iload_n 2, 1) := by decide +kernel
theorem dX7_readTest_19 : decode cX7_readTest 19 = .ok (.bipush 60, 2) := by decide +kernel
theorem dX7_readTest_21 : decode cX7_readTest 21 = .ok (.if_icmp .eq 11, 3) := by decide +kernel
theorem dX7_readTest_24 : decode cX7_readTest 24 = .ok (.iload_n 2, 1) := by decide +kernel
theorem dX7_readTest_25 : decode cX7_readTest 25 = .ok (.bipush 61, 2) := by decide +kernel
theorem dX7_readTest_27 : decode cX7_readTest 27 = .ok (.if_icmp .eq 5, 3) := by decide +kernel
theorem dX7_readTest_30 : decode cX7_readTest 30 = .ok (.iconst 1, 1) := by decide +kernel
theorem dX7_readTest_31 : decode cX7_readTest 31 = .ok (.ireturn, 1) := by decide +kernel
theorem dX7_readTest_32 : decode cX7_readTest 32 = .ok (.aload_n 0, 1) := by decide +kernel
theorem dX7_readTest_33 : decode cX7_readTest 33 = .ok (.getfield 12, 3) := by decide +kernel
theorem dX7_readTest_36 : decode cX7_readTest 36 = .ok (.invokevirtual 128, 3) := by decide +kernel
theorem dX7_readTest_39 : decode cX7_readTest 39 = .ok (.aload_n 0, 1) := by decide +kernel
theorem dX7_readTest_40 : decode cX7_readTest 40 = .ok (.iload_n 1, 1) := by decide +kernel
theorem dX7_readTest_41 : decode cX7_readTest 41 = .ok (.invokevirtual 269, 3) := by decide +kernel
theorem dX7_readTest_44 : decode cX7_readTest 44 = .ok (.ifCond .ne 5, 3) := by decide +kernel
theorem dX7_readTest_47 : decode cX7_readTest 47 = .ok (.iconst 0, 1) := by decide +kernel
theorem dX7_readTest_48 : decode cX7_readTest 48 = .ok (.ireturn, 1) := by decide +kernel
theorem dX7_readTest_49 : decode cX7_readTest 49 = .ok (.aload_n 0, 1) := by decide +kernel
theorem dX7_readTest_50 : decode cX7_readTest 50 = .ok (.getfield 25, 3) := by decide +kernel
theorem dX7_readTest_53 : decode cX7_readTest 53 = .ok (.getfield 86, 3) := by decide +kernel
theorem dX7_readTest_56 : decode cX7_readTest 56 = .ok (.iload_n 2, 1) := by decide +kernel
theorem dX7_readTest_57 : decode cX7_readTest 57 = .ok (.bipush 60, 2) := by decide +kernel
theorem dX7_readTest_59 : decode cX7_readTest 59 = .ok (.if_icmp .ne 8, 3) := by decide +kernel
theorem dX7_readTest_62 : decode cX7_readTest 62 = .ok (.bipush (-10), 2) := by decide +kernel
theorem dX7_readTest_64 : decode cX7_readTest 64 = .ok (.goto 5, 3) := by decide +kernel
theorem dX7_readTest_67 : decode cX7_readTest 67 = .ok (.bipush (-11), 2) := by decide +kernel
theorem dX7_readTest_69 : decode cX7_readTest 69 = .ok (.invokevirtual 255, 3) := by decide +kernel
theorem dX7_readTest_72 : decode cX7_readTest 72 = .ok (.iconst 1, 1) := by decide +kernel
theorem dX7_readTest_73 : decode cX7_readTest 73 = .ok (.ireturn, 1) := by decide +kernel
theorem dX7_readSum_0 : decode cX7_readSum 0 = .ok (.aload_n 0, 1) := by decide +kernel
theorem dX7_readSum_1 : decode cX7_readSum 1 = .ok (.iload_n 1, 1) := by decide +kernel
theorem dX7_readSum_2 : decode cX7_readSum 2 = .ok (.invokevirtual 272, 3) := by decide +kernel
theorem dX7_readSum_5 : decode cX7_readSum 5 = .ok (.ifCond .ne 5, 3) := by decide +kernel
theorem dX7_readSum_8 : decode cX7_readSum 8 = .ok (.iconst 0, 1) := by decide +kernel
theorem dX7_readSum_9 : decode cX7_readSum 9 = .ok (.ireturn, 1) := by decide +kernel
theorem dX7_readSum_10 : decode cX7_readSum 10 = .ok (.iconst 0, 1) := by decide +kernel
theorem dX7_readSum_11 : decode cX7_readSum 11 = .ok (.istore_n 2, 1) := by decide +kernel
theorem dX7_readSum_12 : decode cX7_readSum 12 = .ok (.iload_n 2, 1) := by decide +kernel
theorem dX7_readSum_13 : decode cX7_readSum 13 = .ok (.sipush 700, 3) := by decide +kernel
theorem dX7_readSum_16 : decode cX7_readSum 16 = .ok (.if_icmp .ge 81, 3) := by decide +kernel
theorem dX7_readSum_19 : decode cX7_readSum 19 = .ok (.aload_n 0, 1) := by decide +kernel
theorem dX7_readSum_20 : decode cX7_readSum 20 = .ok (.getfield 12, 3) := by decide +kernel
theorem dX7_readSum_23 : decode cX7_readSum 23 = .ok (.getfield 80, 3) := by decide +kernel
theorem dX7_readSum_26 : decode cX7_readSum 26 = .ok (.bipush 43, 2) := by decide +kernel
theorem dX7_readSum_28 : decode cX7_readSum 28 = .ok (.if_icmp .eq 15, 3) := by decide +kernel
theorem dX7_readSum_31 : decode cX7_readSum 31 = .ok (.aload_n 0, 1) := by decide +kernel
theorem dX7_readSum_32 : decode cX7_readSum 32 = .ok (.getfield 12, 3) := by decide +kernel
theorem dX7_readSum_35 : decode cX7_readSum 35 = .ok (.getfield 80, 3) := by decide +kernel
theorem dX7_readSum_38 : decode cX7_readSum 38 = .ok (.bipush 45, 2) := by decide +kernel
theorem dX7_readSum_40 : decode cX7_readSum 40 = .ok (.if_icmp .ne 57, 3) := by decide +kernel
theorem dX7_readSum_43 : decode cX7_readSum 43 = .ok (.aload_n 0, 1) := by decide +kernel
theorem dX7_readSum_44 : decode cX7_readSum 44 = .ok (.getfield 12, 3) := by decide +kernel
theorem dX7_readSum_47 : decode cX7_readSum 47 = .ok (.getfield 80, 3) := by decide +kernel
theorem dX7_readSum_50 : decode cX7_readSum 50 = .ok (.bipush 43, 2) := by decide +kernel
theorem dX7_readSum_52 : decode cX7_readSum 52 = .ok (.if_icmp .ne 8, 3) := by decide +kernel
theorem dX7_readSum_55 : decode cX7_readSum 55 = .ok (.bipush (-12), 2) := by decide +kernel
theorem dX7_readSum_57 : decode cX7_readSum 57 = .ok (.goto 5, 3) := by decide +kernel
theorem dX7_readSum_60 : decode cX7_readSum 60 = .ok (.bipush (-13), 2) := by decide +kernel
theorem dX7_readSum_62 : decode cX7_readSum 62 = .ok (.istore_n 3, 1) := by decide +kernel
theorem dX7_readSum_63 : decode cX7_readSum 63 = .ok (.aload_n 0, 1) := by decide +kernel
theorem dX7_readSum_64 : decode cX7_readSum 64 = .ok (.getfield 12, 3) := by decide +kernel
theorem dX7_readSum_67 : decode cX7_readSum 67 = .ok (.invokevirtual 128, 3) := by decide +kernel
theorem dX7_readSum_70 : decode cX7_readSum 70 = .ok (.aload_n 0, 1) := by decide +kernel
theorem dX7_readSum_71 : decode cX7_readSum 71 = .ok (.iload_n 1, 1) := by decide +kernel
theorem dX7_readSum_72 : decode cX7_readSum 72 = .ok (.invokevirtual 272, 3) := by decide +kernel
theorem dX7_readSum_75 : decode cX7_readSum 75 = .ok (.ifCond .ne 5, 3) := by decide +kernel
theorem dX7_readSum_78 : decode cX7_readSum 78 = .ok (.iconst 0, 1) := by decide +kernel
theorem dX7_readSum_79 : decode cX7_readSum 79 = .ok (.ireturn, 1) := by decide +kernel
theorem dX7_readSum_80 : decode cX7_readSum 80 = .ok (.aload_n 0, 1) := by decide +kernel
theorem dX7_readSum_81 : decode cX7_readSum 81 = .ok (.getfield 25, 3) := by decide +kernel
theorem dX7_readSum_84 : decode cX7_readSum 84 = .ok (.getfield 86, 3) := by decide +kernel
theorem dX7_readSum_87 : decode cX7_readSum 87 = .ok (.iload_n 3, 1) := by decide +kernel
theorem dX7_readSum_88 : decode cX7_readSum 88 = .ok (.invokevirtual 255, 3) := by decide +kernel
theorem dX7_readSum_91 : decode cX7_readSum 91 = .ok (.iinc 2 1, 3) := by decide +kernel
theorem dX7_readSum_94 : decode cX7_readSum 94 = .ok (.goto (-82), 3) := by decide +kernel
theorem dX7_readSum_97 : decode cX7_readSum 97 = .ok (.iconst 1, 1) := by decide +kernel
theorem dX7_readSum_98 : decode cX7_readSum 98 = .ok (.ireturn, 1) := by decide +kernel
theorem dX7_readProduct_0 : decode cX7_readProduct 0 = .ok (.aload_n 0, 1) := by decide +kernel
theorem dX7_readProduct_1 : decode cX7_readProduct 1 = .ok (.iload_n 1, 1) := by decide +kernel
theorem dX7_readProduct_2 : decode cX7_readProduct 2 = .ok (.invokevirtual 275, 3) := by decide +kernel
theorem dX7_readProduct_5 : decode cX7_readProduct 5 = .ok (.ifCond .ne 5, 3) := by decide +kernel
theorem dX7_readProduct_8 : decode cX7_readProduct 8 = .ok (.iconst 0, 1) := by decide +kernel
theorem dX7_readProduct_9 : decode cX7_readProduct 9 = .ok (.ireturn, 1) := by decide +kernel
theorem dX7_readProduct_10 : decode cX7_readProduct 10 = .ok (.iconst 0, 1) := by decide +kernel
theorem dX7_readProduct_11 : decode cX7_readProduct 11 = .ok (.istore_n 2, 1) := by decide +kernel
theorem dX7_readProduct_12 : decode cX7_readProduct 12 = .ok (.iload_n 2, 1) := by decide +kernel
theorem dX7_readProduct_13 : decode cX7_readProduct 13 = .ok (.sipush 700, 3) := by decide +kernel
theorem dX7_readProduct_16 : decode cX7_readProduct 16 = .ok (.if_icmp .ge 81, 3) := by decide +kernel
theorem dX7_readProduct_19 : decode cX7_readProduct 19 = .ok (.aload_n 0, 1) := by decide +kernel
theorem dX7_readProduct_20 : decode cX7_readProduct 20 = .ok (.getfield 12, 3) := by decide +kernel
theorem dX7_readProduct_23 : decode cX7_readProduct 23 = .ok (.getfield 80, 3) := by decide +kernel
theorem dX7_readProduct_26 : decode cX7_readProduct 26 = .ok (.bipush 42, 2) := by decide +kernel
theorem dX7_readProduct_28 : decode cX7_readProduct 28 = .ok (.if_icmp .eq 15, 3) := by decide +kernel
theorem dX7_readProduct_31 : decode cX7_readProduct 31 = .ok (.aload_n 0, 1) := by decide +kernel
theorem dX7_readProduct_32 : decode cX7_readProduct 32 = .ok (.getfield 12, 3) := by decide +kernel
theorem dX7_readProduct_35 : decode cX7_readProduct 35 = .ok (.getfield 80, 3) := by decide +kernel
theorem dX7_readProduct_38 : decode cX7_readProduct 38 = .ok (.bipush 47, 2) := by decide +kernel
theorem dX7_readProduct_40 : decode cX7_readProduct 40 = .ok (.if_icmp .ne 57, 3) := by decide +kernel
theorem dX7_readProduct_43 : decode cX7_readProduct 43 = .ok (.aload_n 0, 1) := by decide +kernel
theorem dX7_readProduct_44 : decode cX7_readProduct 44 = .ok (.getfield 12, 3) := by decide +kernel
theorem dX7_readProduct_47 : decode cX7_readProduct 47 = .ok (.getfield 80, 3) := by decide +kernel
theorem dX7_readProduct_50 : decode cX7_readProduct 50 = .ok (.bipush 42, 2) := by decide +kernel
theorem dX7_readProduct_52 : decode cX7_readProduct 52 = .ok (.if_icmp .ne 8, 3) := by decide +kernel
theorem dX7_readProduct_55 : decode cX7_readProduct 55 = .ok (.bipush (-14), 2) := by decide +kernel
theorem dX7_readProduct_57 : decode cX7_readProduct 57 = .ok (.goto 5, 3) := by decide +kernel
theorem dX7_readProduct_60 : decode cX7_readProduct 60 = .ok (.bipush (-15), 2) := by decide +kernel
theorem dX7_readProduct_62 : decode cX7_readProduct 62 = .ok (.istore_n 3, 1) := by decide +kernel
theorem dX7_readProduct_63 : decode cX7_readProduct 63 = .ok (.aload_n 0, 1) := by decide +kernel
theorem dX7_readProduct_64 : decode cX7_readProduct 64 = .ok (.getfield 12, 3) := by decide +kernel
theorem dX7_readProduct_67 : decode cX7_readProduct 67 = .ok (.invokevirtual 128, 3) := by decide +kernel
theorem dX7_readProduct_70 : decode cX7_readProduct 70 = .ok (.aload_n 0, 1) := by decide +kernel
theorem dX7_readProduct_71 : decode cX7_readProduct 71 = .ok (.iload_n 1, 1) := by decide +kernel
theorem dX7_readProduct_72 : decode cX7_readProduct 72 = .ok (.invokevirtual 275, 3) := by decide +kernel
theorem dX7_readProduct_75 : decode cX7_readProduct 75 = .ok (.ifCond .ne 5, 3) := by decide +kernel
theorem dX7_readProduct_78 : decode cX7_readProduct 78 = .ok (.iconst 0, 1) := by decide +kernel
theorem dX7_readProduct_79 : decode cX7_readProduct 79 = .ok (.ireturn, 1) := by decide +kernel
theorem dX7_readProduct_80 : decode cX7_readProduct 80 = .ok (.aload_n 0, 1) := by decide +kernel
theorem dX7_readProduct_81 : decode cX7_readProduct 81 = .ok (.getfield 25, 3) := by decide +kernel
theorem dX7_readProduct_84 : decode cX7_readProduct 84 = .ok (.getfield 86, 3) := by decide +kernel
theorem dX7_readProduct_87 : decode cX7_readProduct 87 = .ok (.iload_n 3, 1) := by decide +kernel
theorem dX7_readProduct_88 : decode cX7_readProduct 88 = .ok (.invokevirtual 255, 3) := by decide +kernel
theorem dX7_readProduct_91 : decode cX7_readProduct 91 = .ok (.iinc 2 1, 3) := by decide +kernel
theorem dX7_readProduct_94 : decode cX7_readProduct 94 = .ok (.goto (-82), 3) := by decide +kernel
theorem dX7_readProduct_97 : decode cX7_readProduct 97 = .ok (.iconst 1, 1) := by decide +kernel
theorem dX7_readProduct_98 : decode cX7_readProduct 98 = .ok (.ireturn, 1) := by decide +kernel
theorem dX7_readPart_0 : decode cX7_readPart 0 = .ok (.aload_n 0, 1) := by decide +kernel
theorem dX7_readPart_1 : decode cX7_readPart 1 = .ok (.getfield 12, 3) := by decide +kernel
theorem dX7_readPart_4 : decode cX7_readPart 4 = .ok (.getfield 80, 3) := by decide +kernel
theorem dX7_readPart_7 : decode cX7_readPart 7 = .ok (.bipush 40, 2) := by decide +kernel
theorem dX7_readPart_9 : decode cX7_readPart 9 = .ok (.if_icmp .ne 35, 3) := by decide +kernel
theorem dX7_readPart_12 : decode cX7_readPart 12 = .ok (.aload_n 0, 1) := by decide +kernel
theorem dX7_readPart_13 : decode cX7_readPart 13 = .ok (.getfield 12, 3) := by decide +kernel
theorem dX7_readPart_16 : decode cX7_readPart 16 = .ok (.invokevirtual 128, 3) := by decide +kernel
theorem dX7_readPart_19 : decode cX7_readPart 19 = .ok (.aload_n 0, 1) := by decide +kernel
theorem dX7_readPart_20 : decode cX7_readPart 20 = .ok (.iload_n 1, 1) := by decide +kernel
theorem dX7_readPart_21 : decode cX7_readPart 21 = .ok (.iconst 1, 1) := by decide +kernel
theorem dX7_readPart_22 : decode cX7_readPart 22 = .ok (.iadd, 1) := by decide +kernel
theorem dX7_readPart_23 : decode cX7_readPart 23 = .ok (.invokevirtual 202, 3) := by decide +kernel
theorem dX7_readPart_26 : decode cX7_readPart 26 = .ok (.ifCond .eq 16, 3) := by decide +kernel
theorem dX7_readPart_29 : decode cX7_readPart 29 = .ok (.aload_n 0, 1) := by decide +kernel
theorem dX7_readPart_30 : decode cX7_readPart 30 = .ok (.bipush 41, 2) := by decide +kernel
theorem dX7_readPart_32 : decode cX7_readPart 32 = .ok (.invokevirtual 141, 3) := by decide +kernel
theorem dX7_readPart_35 : decode cX7_readPart 35 = .ok (.ifCond .eq 7, 3) := by decide +kernel
theorem dX7_readPart_38 : decode cX7_readPart 38 = .ok (.iconst 1, 1) := by decide +kernel
theorem dX7_readPart_39 : decode cX7_readPart 39 = .ok (.goto 4, 3) := by decide +kernel
theorem dX7_readPart_42 : decode cX7_readPart 42 = .ok (.iconst 0, 1) := by decide +kernel
theorem dX7_readPart_43 : decode cX7_readPart 43 = .ok (.ireturn, 1) := by decide +kernel
theorem dX7_readPart_44 : decode cX7_readPart 44 = .ok (.aload_n 0, 1) := by decide +kernel
theorem dX7_readPart_45 : decode cX7_readPart 45 = .ok (.getfield 12, 3) := by decide +kernel
theorem dX7_readPart_48 : decode cX7_readPart 48 = .ok (.getfield 80, 3) := by decide +kernel
theorem dX7_readPart_51 : decode cX7_readPart 51 = .ok (.iconst 2, 1) := by decide +kernel
theorem dX7_readPart_52 : decode cX7_readPart 52 = .ok (.if_icmp .ne 8, 3) := by decide +kernel
theorem dX7_readPart_55 : decode cX7_readPart 55 = .ok (.aload_n 0, 1) := by decide +kernel
theorem dX7_readPart_56 : decode cX7_readPart 56 = .ok (.invokevirtual 278, 3) := by decide +kernel
theorem dX7_readPart_59 : decode cX7_readPart 59 = .ok (.ireturn, 1) := by decide +kernel
theorem dX7_readPart_60 : decode cX7_readPart 60 = .ok (.aload_n 0, 1) := by decide +kernel
theorem dX7_readPart_61 : decode cX7_readPart 61 = .ok (.iconst 0, 1) := by decide +kernel
theorem dX7_readPart_62 : decode cX7_readPart 62 = .ok (.sipush 9999, 3) := by decide +kernel
theorem dX7_readPart_65 : decode cX7_readPart 65 = .ok (.invokevirtual 131, 3) := by decide +kernel
theorem dX7_readPart_68 : decode cX7_readPart 68 = .ok (.istore_n 2, 1) := by decide +kernel
theorem dX7_readPart_69 : decode cX7_readPart 69 = .ok (.iload_n 2, 1) := by decide +kernel
theorem dX7_readPart_70 : decode cX7_readPart 70 = .ok (.iconst (-1), 1) := by decide +kernel
theorem dX7_readPart_71 : decode cX7_readPart 71 = .ok (.if_icmp .ne 5, 3) := by decide +kernel
theorem dX7_readPart_74 : decode cX7_readPart 74 = .ok (.iconst 0, 1) := by decide +kernel
theorem dX7_readPart_75 : decode cX7_readPart 75 = .ok (.ireturn, 1) := by decide +kernel
theorem dX7_readPart_76 : decode cX7_readPart 76 = .ok (.aload_n 0, 1) := by decide +kernel
theorem dX7_readPart_77 : decode cX7_readPart 77 = .ok (.getfield 25, 3) := by decide +kernel
theorem dX7_readPart_80 : decode cX7_readPart 80 = .ok (.getfield 86, 3) := by decide +kernel
theorem dX7_readPart_83 : decode cX7_readPart 83 = .ok (.iload_n 2, 1) := by decide +kernel
theorem dX7_readPart_84 : decode cX7_readPart 84 = .ok (.invokevirtual 255, 3) := by decide +kernel
theorem dX7_readPart_87 : decode cX7_readPart 87 = .ok (.iconst 1, 1) := by decide +kernel
theorem dX7_readPart_88 : decode cX7_readPart 88 = .ok (.ireturn, 1) := by decide +kernel
theorem dX7_readValue_0 : decode cX7_readValue 0 = .ok (.aload_n 0, 1) := by decide +kernel
theorem dX7_readValue_1 : decode cX7_readValue 1 = .ok (.invokevirtual 281, 3) := by decide +kernel
theorem dX7_readValue_4 : decode cX7_readValue 4 = .ok (.istore_n 1, 1) := by decide +kernel
theorem dX7_readValue_5 : decode cX7_readValue 5 = .ok (.iload_n 1, 1) := by decide +kernel
theorem dX7_readValue_6 : decode cX7_readValue 6 = .ok (.iconst (-1), 1) := by decide +kernel
theorem dX7_readValue_7 : decode cX7_readValue 7 = .ok (.if_icmp .ne 9, 3) := by decide +kernel
theorem dX7_readValue_10 : decode cX7_readValue 10 = .ok (.aload_n 0, 1) := by decide +kernel
theorem dX7_readValue_11 : decode cX7_readValue 11 = .ok (.iconst 3, 1) := by decide +kernel
theorem dX7_readValue_12 : decode cX7_readValue 12 = .ok (.invokevirtual 124, 3) := by decide +kernel
theorem dX7_readValue_15 : decode cX7_readValue 15 = .ok (.ireturn, 1) := by decide +kernel
theorem dX7_readValue_16 : decode cX7_readValue 16 = .ok (.aload_n 0, 1) := by decide +kernel
theorem dX7_readValue_17 : decode cX7_readValue 17 = .ok (.getfield 25, 3) := by decide +kernel
theorem dX7_readValue_20 : decode cX7_readValue 20 = .ok (.getfield 86, 3) := by decide +kernel
theorem dX7_readValue_23 : decode cX7_readValue 23 = .ok (.iconst (-1), 1) := by decide +kernel
theorem dX7_readValue_24 : decode cX7_readValue 24 = .ok (.iload_n 1, 1) := by decide +kernel
theorem dX7_readValue_25 : decode cX7_readValue 25 = .ok (.isub, 1) := by decide +kernel
theorem dX7_readValue_26 : decode cX7_readValue 26 = .ok (.invokevirtual 255, 3) := by decide +kernel
theorem dX7_readValue_29 : decode cX7_readValue 29 = .ok (.aload_n 0, 1) := by decide +kernel
theorem dX7_readValue_30 : decode cX7_readValue 30 = .ok (.getfield 12, 3) := by decide +kernel
theorem dX7_readValue_33 : decode cX7_readValue 33 = .ok (.invokevirtual 128, 3) := by decide +kernel
theorem dX7_readValue_36 : decode cX7_readValue 36 = .ok (.iconst 1, 1) := by decide +kernel
theorem dX7_readValue_37 : decode cX7_readValue 37 = .ok (.ireturn, 1) := by decide +kernel
theorem dX7_valueHere_0 : decode cX7_valueHere 0 = .ok (.aload_n 0, 1) := by decide +kernel
theorem dX7_valueHere_1 : decode cX7_valueHere 1 = .ok (.getfield 12, 3) := by decide +kernel
theorem dX7_valueHere_4 : decode cX7_valueHere 4 = .ok (.ldc_w 284, 3) := by decide +kernel
theorem dX7_valueHere_7 : decode cX7_valueHere 7 = .ok (.invokevirtual 72, 3) := by decide +kernel
theorem dX7_valueHere_10 : decode cX7_valueHere 10 = .ok (.ifCond .eq 5, 3) := by decide +kernel
theorem dX7_valueHere_13 : decode cX7_valueHere 13 = .ok (.iconst 0, 1) := by decide +kernel
theorem dX7_valueHere_14 : decode cX7_valueHere 14 = .ok (.ireturn, 1) := by decide +kernel
theorem dX7_valueHere_15 : decode cX7_valueHere 15 = .ok (.aload_n 0, 1) := by decide +kernel
theorem dX7_valueHere_16 : decode cX7_valueHere 16 = .ok (.getfield 12, 3) := by decide +kernel
theorem dX7_valueHere_19 : decode cX7_valueHere 19 = .ok (.ldc_w 285, 3) := by decide +kernel
theorem dX7_valueHere_22 : decode cX7_valueHere 22 = .ok (.invokevirtual 72, 3) := by decide +kernel
theorem dX7_valueHere_25 : decode cX7_valueHere 25 = .ok (.ifCond .eq 5, 3) := by decide +kernel
theorem dX7_valueHere_28 : decode cX7_valueHere 28 = .ok (.iconst 1, 1) := by decide +kernel
theorem dX7_valueHere_29 : decode cX7_valueHere 29 = .ok (.ireturn, 1) := by decide +kernel
theorem dX7_valueHere_30 : decode cX7_valueHere 30 = .ok (.aload_n 0, 1) := by decide +kernel
theorem dX7_valueHere_31 : decode cX7_valueHere 31 = .ok (.getfield 12, 3) := by decide +kernel
theorem dX7_valueHere_34 : decode cX7_valueHere 34 = .ok (.ldc 104, 2) := by decide +kernel
theorem dX7_valueHere_36 : decode cX7_valueHere 36 = .ok (.invokevirtual 72, 3) := by decide +kernel
theorem dX7_valueHere_39 : decode cX7_valueHere 39 = .ok (.ifCond .eq 5, 3) := by decide +kernel
theorem dX7_valueHere_42 : decode cX7_valueHere 42 = .ok (.iconst 2, 1) := by decide +kernel
theorem dX7_valueHere_43 : decode cX7_valueHere 43 = .ok (.ireturn, 1) := by decide +kernel
theorem dX7_valueHere_44 : decode cX7_valueHere 44 = .ok (.aload_n 0, 1) := by decide +kernel
theorem dX7_valueHere_45 : decode cX7_valueHere 45 = .ok (.getfield 12, 3) := by decide +kernel
theorem dX7_valueHere_48 : decode cX7_valueHere 48 = .ok (.ldc_w 286, 3) := by decide +kernel
theorem dX7_valueHere_51 : decode cX7_valueHere 51 = .ok (.invokevirtual 72, 3) := by decide +kernel
theorem dX7_valueHere_54 : decode cX7_valueHere 54 = .ok (.ifCond .eq 5, 3) := by decide +kernel
theorem dX7_valueHere_57 : decode cX7_valueHere 57 = .ok (.iconst 3, 1) := by decide +kernel
theorem dX7_valueHere_58 : decode cX7_valueHere 58 = .ok (.ireturn, 1) := by decide +kernel
theorem dX7_valueHere_59 : decode cX7_valueHere 59 = .ok (.aload_n 0, 1) := by decide +kernel
theorem dX7_valueHere_60 : decode cX7_valueHere 60 = .ok (.getfield 12, 3) := by decide +kernel
theorem dX7_valueHere_63 : decode cX7_valueHere 63 = .ok (.ldc_w 288, 3) := by decide +kernel
theorem dX7_valueHere_66 : decode cX7_valueHere 66 = .ok (.invokevirtual 72, 3) := by decide +kernel
theorem dX7_valueHere_69 : decode cX7_valueHere 69 = .ok (.ifCond .eq 5, 3) := by decide +kernel
theorem dX7_valueHere_72 : decode cX7_valueHere 72 = .ok (.iconst 4, 1) := by decide +kernel
theorem dX7_valueHere_73 : decode cX7_valueHere 73 = .ok (.ireturn, 1) := by decide +kernel
theorem dX7_valueHere_74 : decode cX7_valueHere 74 = .ok (.aload_n 0, 1) := by decide +kernel
theorem dX7_valueHere_75 : decode cX7_valueHere 75 = .ok (.getfield 12, 3) := by decide +kernel
theorem dX7_valueHere_78 : decode cX7_valueHere 78 = .ok (.ldc_w 289, 3) := by decide +kernel
theorem dX7_valueHere_81 : decode cX7_valueHere 81 = .ok (.invokevirtual 72, 3) := by decide +kernel
theorem dX7_valueHere_84 : decode cX7_valueHere 84 = .ok (.ifCond .eq 7, 3) := by decide +kernel
theorem dX7_valueHere_87 : decode cX7_valueHere 87 = .ok (.iconst 5, 1) := by decide +kernel
theorem dX7_valueHere_88 : decode cX7_valueHere 88 = .ok (.goto 4, 3) := by decide +kernel
theorem dX7_valueHere_91 : decode cX7_valueHere 91 = .ok (.iconst (-1), 1) := by decide +kernel
theorem dX7_valueHere_92 : decode cX7_valueHere 92 = .ok (.ireturn, 1) := by decide +kernel
theorem dX8_init_0 : decode cX8_init 0 = .ok (.aload_n 0, 1) := by decide +kernel
theorem dX8_init_1 : decode cX8_init 1 = .ok (.invokespecial 3, 3) := by decide +kernel
theorem dX8_init_4 : decode cX8_init 4 = .ok (.aload_n 0, 1) := by decide +kernel
theorem dX8_init_5 : decode cX8_init 5 = .ok (.iconst 5, 1) := by decide +kernel
theorem dX8_init_6 : decode cX8_init 6 = .ok (.newarray .int, 2) := by decide +kernel
theorem dX8_init_8 : decode cX8_init 8 = .ok (.putfield 9, 3) := by decide +kernel
theorem dX8_init_11 : decode cX8_init 11 = .ok (.aload_n 0, 1) := by decide +kernel
theorem dX8_init_12 : decode cX8_init 12 = .ok (.iconst 5, 1) := by decide +kernel
theorem dX8_init_13 : decode cX8_init 13 = .ok (.newarray .int, 2) := by decide +kernel
theorem dX8_init_15 : decode cX8_init 15 = .ok (.putfield 15, 3) := by decide +kernel
theorem dX8_init_18 : decode cX8_init 18 = .ok (.aload_n 0, 1) := by decide +kernel
theorem dX8_init_19 : decode cX8_init 19 = .ok (.bipush 8, 2) := by decide +kernel
theorem dX8_init_21 : decode cX8_init 21 = .ok (.newarray .int, 2) := by decide +kernel
theorem dX8_init_23 : decode cX8_init 23 = .ok (.putfield 18, 3) := by decide +kernel
theorem dX8_init_26 : decode cX8_init 26 = .ok (.aload_n 0, 1) := by decide +kernel
theorem dX8_init_27 : decode cX8_init 27 = .ok (.bipush 8, 2) := by decide +kernel
theorem dX8_init_29 : decode cX8_init 29 = .ok (.newarray .int, 2) := by decide +kernel
theorem dX8_init_31 : decode cX8_init 31 = .ok (.putfield 21, 3) := by decide +kernel
theorem dX8_init_34 : decode cX8_init 34 = .ok (.aload_n 0, 1) := by decide +kernel
theorem dX8_init_35 : decode cX8_init 35 = .ok (.new 24, 3) := by decide +kernel
theorem dX8_init_38 : decode cX8_init 38 = .ok (.dup, 1) := by decide +kernel
theorem dX8_init_39 : decode cX8_init 39 = .ok (.invokespecial 26, 3) := by decide +kernel
theorem dX8_init_42 : decode cX8_init 42 = .ok (.putfield 27, 3) := by decide +kernel
theorem dX8_init_45 : decode cX8_init 45 = .ok (.aload_n 0, 1) := by decide +kernel
theorem dX8_init_46 : decode cX8_init 46 = .ok (.new 31, 3) := by decide +kernel
theorem dX8_init_49 : decode cX8_init 49 = .ok (.dup, 1) := by decide +kernel
theorem dX8_init_50 : decode cX8_init 50 = .ok (.invokespecial 33, 3) := by decide +kernel
theorem dX8_init_53 : decode cX8_init 53 = .ok (.putfield 34, 3) := by decide +kernel
theorem dX8_init_56 : decode cX8_init 56 = .ok (.aload_n 0, 1) := by decide +kernel
theorem dX8_init_57 : decode cX8_init 57 = .ok (.iconst (-1), 1) := by decide +kernel
theorem dX8_init_58 : decode cX8_init 58 = .ok (.putfield 38, 3) := by decide +kernel
theorem dX8_init_61 : decode cX8_init 61 = .ok (.return_, 1) := by decide +kernel
theorem dX8_take_0 : decode cX8_take 0 = .ok (.aload_n 1, 1) := by decide +kernel
theorem dX8_take_1 : decode cX8_take 1 = .ok (.getfield 9, 3) := by decide +kernel
theorem dX8_take_4 : decode cX8_take 4 = .ok (.iconst 0, 1) := by decide +kernel
theorem dX8_take_5 : decode cX8_take 5 = .ok (.aload_n 0, 1) := by decide +kernel
theorem dX8_take_6 : decode cX8_take 6 = .ok (.getfield 9, 3) := by decide +kernel
theorem dX8_take_9 : decode cX8_take 9 = .ok (.iconst 0, 1) := by decide +kernel
theorem dX8_take_10 : decode cX8_take 10 = .ok (.iconst 5, 1) := by decide +kernel
theorem dX8_take_11 : decode cX8_take 11 = .ok (.invokestatic 42, 3) := by decide +kernel
theorem dX8_take_14 : decode cX8_take 14 = .ok (.aload_n 1, 1) := by decide +kernel
theorem dX8_take_15 : decode cX8_take 15 = .ok (.getfield 15, 3) := by decide +kernel
theorem dX8_take_18 : decode cX8_take 18 = .ok (.iconst 0, 1) := by decide +kernel
theorem dX8_take_19 : decode cX8_take 19 = .ok (.aload_n 0, 1) := by decide +kernel
theorem dX8_take_20 : decode cX8_take 20 = .ok (.getfield 15, 3) := by decide +kernel
theorem dX8_take_23 : decode cX8_take 23 = .ok (.iconst 0, 1) := by decide +kernel
theorem dX8_take_24 : decode cX8_take 24 = .ok (.iconst 5, 1) := by decide +kernel
theorem dX8_take_25 : decode cX8_take 25 = .ok (.invokestatic 42, 3) := by decide +kernel
theorem dX8_take_28 : decode cX8_take 28 = .ok (.aload_n 1, 1) := by decide +kernel
theorem dX8_take_29 : decode cX8_take 29 = .ok (.getfield 18, 3) := by decide +kernel
theorem dX8_take_32 : decode cX8_take 32 = .ok (.iconst 0, 1) := by decide +kernel
theorem dX8_take_33 : decode cX8_take 33 = .ok (.aload_n 0, 1) := by decide +kernel
theorem dX8_take_34 : decode cX8_take 34 = .ok (.getfield 18, 3) := by decide +kernel
theorem dX8_take_37 : decode cX8_take 37 = .ok (.iconst 0, 1) := by decide +kernel
theorem dX8_take_38 : decode cX8_take 38 = .ok (.bipush 8, 2) := by decide +kernel
theorem dX8_take_40 : decode cX8_take 40 = .ok (.invokestatic 42, 3) := by decide +kernel
theorem dX8_take_43 : decode cX8_take 43 = .ok (.aload_n 1, 1) := by decide +kernel
theorem dX8_take_44 : decode cX8_take 44 = .ok (.getfield 21, 3) := by decide +kernel
theorem dX8_take_47 : decode cX8_take 47 = .ok (.iconst 0, 1) := by decide +kernel
theorem dX8_take_48 : decode cX8_take 48 = .ok (.aload_n 0, 1) := by decide +kernel
theorem dX8_take_49 : decode cX8_take 49 = .ok (.getfield 21, 3) := by decide +kernel
theorem dX8_take_52 : decode cX8_take 52 = .ok (.iconst 0, 1) := by decide +kernel
theorem dX8_take_53 : decode cX8_take 53 = .ok (.bipush 8, 2) := by decide +kernel
theorem dX8_take_55 : decode cX8_take 55 = .ok (.invokestatic 42, 3) := by decide +kernel
theorem dX8_take_58 : decode cX8_take 58 = .ok (.aload_n 0, 1) := by decide +kernel
theorem dX8_take_59 : decode cX8_take 59 = .ok (.getfield 27, 3) := by decide +kernel
theorem dX8_take_62 : decode cX8_take 62 = .ok (.aload_n 1, 1) := by decide +kernel
theorem dX8_take_63 : decode cX8_take 63 = .ok (.getfield 27, 3) := by decide +kernel
theorem dX8_take_66 : decode cX8_take 66 = .ok (.invokevirtual 48, 3) := by decide +kernel
theorem dX8_take_69 : decode cX8_take 69 = .ok (.aload_n 0, 1) := by decide +kernel
theorem dX8_take_70 : decode cX8_take 70 = .ok (.getfield 34, 3) := by decide +kernel
theorem dX8_take_73 : decode cX8_take 73 = .ok (.aload_n 1, 1) := by decide +kernel
theorem dX8_take_74 : decode cX8_take 74 = .ok (.getfield 34, 3) := by decide +kernel
theorem dX8_take_77 : decode cX8_take 77 = .ok (.invokevirtual 52, 3) := by decide +kernel
theorem dX8_take_80 : decode cX8_take 80 = .ok (.aload_n 0, 1) := by decide +kernel
theorem dX8_take_81 : decode cX8_take 81 = .ok (.aload_n 1, 1) := by decide +kernel
theorem dX8_take_82 : decode cX8_take 82 = .ok (.getfield 38, 3) := by decide +kernel
theorem dX8_take_85 : decode cX8_take 85 = .ok (.putfield 38, 3) := by decide +kernel
theorem dX8_take_88 : decode cX8_take 88 = .ok (.return_, 1) := by decide +kernel
theorem dX8_undoLast_0 : decode cX8_undoLast 0 = .ok (.aload_n 0, 1) := by decide +kernel
theorem dX8_undoLast_1 : decode cX8_undoLast 1 = .ok (.getfield 27, 3) := by decide +kernel
theorem dX8_undoLast_4 : decode cX8_undoLast 4 = .ok (.getfield 55, 3) := by decide +kernel
theorem dX8_undoLast_7 : decode cX8_undoLast 7 = .ok (.ifCond .le 66, 3) := by decide +kernel
theorem dX8_undoLast_10 : decode cX8_undoLast 10 = .ok (.aload_n 0, 1) := by decide +kernel
theorem dX8_undoLast_11 : decode cX8_undoLast 11 = .ok (.getfield 27, 3) := by decide +kernel
theorem dX8_undoLast_14 : decode cX8_undoLast 14 = .ok (.dup, 1) := by decide +kernel
theorem dX8_undoLast_15 : decode cX8_undoLast 15 = .ok (.getfield 55, 3) := by decide +kernel
theorem dX8_undoLast_18 : decode cX8_undoLast 18 = .ok (.iconst 1, 1) := by decide +kernel
theorem dX8_undoLast_19 : decode cX8_undoLast 19 = .ok (.isub, 1) := by decide +kernel
theorem dX8_undoLast_20 : decode cX8_undoLast 20 = .ok (.putfield 55, 3) := by decide +kernel
theorem dX8_undoLast_23 : decode cX8_undoLast 23 = .ok (.aload_n 0, 1) := by decide +kernel
theorem dX8_undoLast_24 : decode cX8_undoLast 24 = .ok (.aload_n 0, 1) := by decide +kernel
theorem dX8_undoLast_25 : decode cX8_undoLast 25 = .ok (.getfield 27, 3) := by decide +kernel
theorem dX8_undoLast_28 : decode cX8_undoLast 28 = .ok (.getfield 58, 3) := by decide +kernel
theorem dX8_undoLast_31 : decode cX8_undoLast 31 = .ok (.aload_n 0, 1) := by decide +kernel
theorem dX8_undoLast_32 : decode cX8_undoLast 32 = .ok (.getfield 27, 3) := by decide +kernel
theorem dX8_undoLast_35 : decode cX8_undoLast 35 = .ok (.getfield 55, 3) := by decide +kernel
theorem dX8_undoLast_38 : decode cX8_undoLast 38 = .ok (.iaload, 1) := by decide +kernel
theorem dX8_undoLast_39 : decode cX8_undoLast 39 = .ok (.aload_n 0, 1) := by decide +kernel
theorem dX8_undoLast_40 : decode cX8_undoLast 40 = .ok (.getfield 27, 3) := by decide +kernel
theorem dX8_undoLast_43 : decode cX8_undoLast 43 = .ok (.getfield 61, 3) := by decide +kernel
theorem dX8_undoLast_46 : decode cX8_undoLast 46 = .ok (.aload_n 0, 1) := by decide +kernel
theorem dX8_undoLast_47 : decode cX8_undoLast 47 = .ok (.getfield 27, 3) := by decide +kernel
theorem dX8_undoLast_50 : decode cX8_undoLast 50 = .ok (.getfield 55, 3) := by decide +kernel
theorem dX8_undoLast_53 : decode cX8_undoLast 53 = .ok (.iaload, 1) := by decide +kernel
theorem dX8_undoLast_54 : decode cX8_undoLast 54 = .ok (.aload_n 0, 1) := by decide +kernel
theorem dX8_undoLast_55 : decode cX8_undoLast 55 = .ok (.getfield 27, 3) := by decide +kernel
theorem dX8_undoLast_58 : decode cX8_undoLast 58 = .ok (.getfield 64, 3) := by decide +kernel
theorem dX8_undoLast_61 : decode cX8_undoLast 61 = .ok (.aload_n 0, 1) := by decide +kernel
theorem dX8_undoLast_62 : decode cX8_undoLast 62 = .ok (.getfield 27, 3) := by decide +kernel
theorem dX8_undoLast_65 : decode cX8_undoLast 65 = .ok (.getfield 55, 3) := by decide +kernel
theorem dX8_undoLast_68 : decode cX8_undoLast 68 = .ok (.iaload, 1) := by decide +kernel
theorem dX8_undoLast_69 : decode cX8_undoLast 69 = .ok (.invokevirtual 67, 3) := by decide +kernel
theorem dX8_undoLast_72 : decode cX8_undoLast 72 = .ok (.pop, 1) := by decide +kernel
theorem dX8_undoLast_73 : decode cX8_undoLast 73 = .ok (.return_, 1) := by decide +kernel
theorem dX8_change_0 : decode cX8_change 0 = .ok (.iload_n 1, 1) := by decide +kernel
theorem dX8_change_1 : decode cX8_change 1 = .ok (.tableswitch 107 0 4 #[35, 53, 71, 107, 89], 35) := by decide +kernel
theorem dX8_change_36 : decode cX8_change 36 = .ok (.aload_n 0, 1) := by decide +kernel
theorem dX8_change_37 : decode cX8_change 37 = .ok (.getfield 15, 3) := by decide +kernel
theorem dX8_change_40 : decode cX8_change 40 = .ok (.iload_n 2, 1) := by decide +kernel
theorem dX8_change_41 : decode cX8_change 41 = .ok (.iaload, 1) := by decide +kernel
theorem dX8_change_42 : decode cX8_change 42 = .ok (.istore 4, 2) := by decide +kernel
theorem dX8_change_44 : decode cX8_change 44 = .ok (.aload_n 0, 1) := by decide +kernel
theorem dX8_change_45 : decode cX8_change 45 = .ok (.getfield 15, 3) := by decide +kernel
theorem dX8_change_48 : decode cX8_change 48 = .ok (.iload_n 2, 1) := by decide +kernel
theorem dX8_change_49 : decode cX8_change 49 = .ok (.iload_n 3, 1) := by decide +kernel
theorem dX8_change_50 : decode cX8_change 50 = .ok (.iastore, 1) := by decide +kernel
theorem dX8_change_51 : decode cX8_change 51 = .ok (.goto 68, 3) := by decide +kernel
theorem dX8_change_54 : decode cX8_change 54 = .ok (.aload_n 0, 1) := by decide +kernel
theorem dX8_change_55 : decode cX8_change 55 = .ok (.getfield 18, 3) := by decide +kernel
theorem dX8_change_58 : decode cX8_change 58 = .ok (.iload_n 2, 1) := by decide +kernel
theorem dX8_change_59 : decode cX8_change 59 = .ok (.iaload, 1) := by decide +kernel
theorem dX8_change_60 : decode cX8_change 60 = .ok (.istore 4, 2) := by decide +kernel
theorem dX8_change_62 : decode cX8_change 62 = .ok (.aload_n 0, 1) := by decide +kernel
theorem dX8_change_63 : decode cX8_change 63 = .ok (.getfield 18, 3) := by decide +kernel
theorem dX8_change_66 : decode cX8_change 66 = .ok (.iload_n 2, 1) := by decide +kernel
theorem dX8_change_67 : decode cX8_change 67 = .ok (.iload_n 3, 1) := by decide +kernel
theorem dX8_change_68 : decode cX8_change 68 = .ok (.iastore, 1) := by decide +kernel
theorem dX8_change_69 : decode cX8_change 69 = .ok (.goto 50, 3) := by decide +kernel
theorem dX8_change_72 : decode cX8_change 72 = .ok (.aload_n 0, 1) := by decide +kernel
theorem dX8_change_73 : decode cX8_change 73 = .ok (.getfield 9, 3) := by decide +kernel
theorem dX8_change_76 : decode cX8_change 76 = .ok (.iload_n 2, 1) := by decide +kernel
theorem dX8_change_77 : decode cX8_change 77 = .ok (.iaload, 1) := by decide +kernel
theorem dX8_change_78 : decode cX8_change 78 = .ok (.istore 4, 2) := by decide +kernel
theorem dX8_change_80 : decode cX8_change 80 = .ok (.aload_n 0, 1) := by decide +kernel
theorem dX8_change_81 : decode cX8_change 81 = .ok (.getfield 9, 3) := by decide +kernel
theorem dX8_change_84 : decode cX8_change 84 = .ok (.iload_n 2, 1) := by decide +kernel
theorem dX8_change_85 : decode cX8_change 85 = .ok (.iload_n 3, 1) := by decide +kernel
theorem dX8_change_86 : decode cX8_change 86 = .ok (.iastore, 1) := by decide +kernel
theorem dX8_change_87 : decode cX8_change 87 = .ok (.goto 32, 3) := by decide +kernel
theorem dX8_change_90 : decode cX8_change 90 = .ok (.aload_n 0, 1) := by decide +kernel
theorem dX8_change_91 : decode cX8_change 91 = .ok (.getfield 21, 3) := by decide +kernel
theorem dX8_change_94 : decode cX8_change 94 = .ok (.iload_n 2, 1) := by decide +kernel
theorem dX8_change_95 : decode cX8_change 95 = .ok (.iaload, 1) := by decide +kernel
theorem dX8_change_96 : decode cX8_change 96 = .ok (.istore 4, 2) := by decide +kernel
theorem dX8_change_98 : decode cX8_change 98 = .ok (.aload_n 0, 1) := by decide +kernel
theorem dX8_change_99 : decode cX8_change 99 = .ok (.getfield 21, 3) := by decide +kernel
theorem dX8_change_102 : decode cX8_change 102 = .ok (.iload_n 2, 1) := by decide +kernel
theorem dX8_change_103 : decode cX8_change 103 = .ok (.iload_n 3, 1) := by decide +kernel
theorem dX8_change_104 : decode cX8_change 104 = .ok (.iastore, 1) := by decide +kernel
theorem dX8_change_105 : decode cX8_change 105 = .ok (.goto 14, 3) := by decide +kernel
theorem dX8_change_108 : decode cX8_change 108 = .ok (.aload_n 0, 1) := by decide +kernel
theorem dX8_change_109 : decode cX8_change 109 = .ok (.getfield 38, 3) := by decide +kernel
theorem dX8_change_112 : decode cX8_change 112 = .ok (.istore 4, 2) := by decide +kernel
theorem dX8_change_114 : decode cX8_change 114 = .ok (.aload_n 0, 1) := by decide +kernel
theorem dX8_change_115 : decode cX8_change 115 = .ok (.iload_n 3, 1) := by decide +kernel
theorem dX8_change_116 : decode cX8_change 116 = .ok (.putfield 38, 3) := by decide +kernel
theorem dX8_change_119 : decode cX8_change 119 = .ok (.iload 4, 2) := by decide +kernel
theorem dX8_change_121 : decode cX8_change 121 = .ok (.ireturn, 1) := by decide +kernel
theorem dX9_init_0 : decode cX9_init 0 = .ok (.aload_n 0, 1) := by decide +kernel
theorem dX9_init_1 : decode cX9_init 1 = .ok (.invokespecial 1, 3) := by decide +kernel
theorem dX9_init_4 : decode cX9_init 4 = .ok (.aload_n 0, 1) := by decide +kernel
theorem dX9_init_5 : decode cX9_init 5 = .ok (.iconst 0, 1) := by decide +kernel
theorem dX9_init_6 : decode cX9_init 6 = .ok (.newarray .int, 2) := by decide +kernel
theorem dX9_init_8 : decode cX9_init 8 = .ok (.putfield 7, 3) := by decide +kernel
theorem dX9_init_11 : decode cX9_init 11 = .ok (.aload_n 0, 1) := by decide +kernel
theorem dX9_init_12 : decode cX9_init 12 = .ok (.iconst 0, 1) := by decide +kernel
theorem dX9_init_13 : decode cX9_init 13 = .ok (.putfield 13, 3) := by decide +kernel
theorem dX9_init_16 : decode cX9_init 16 = .ok (.aload_n 0, 1) := by decide +kernel
theorem dX9_init_17 : decode cX9_init 17 = .ok (.iconst 0, 1) := by decide +kernel
theorem dX9_init_18 : decode cX9_init 18 = .ok (.putfield 17, 3) := by decide +kernel
theorem dX9_init_21 : decode cX9_init 21 = .ok (.aload_n 0, 1) := by decide +kernel
theorem dX9_init_22 : decode cX9_init 22 = .ok (.iconst 0, 1) := by decide +kernel
theorem dX9_init_23 : decode cX9_init 23 = .ok (.putfield 20, 3) := by decide +kernel
theorem dX9_init_26 : decode cX9_init 26 = .ok (.aload_n 0, 1) := by decide +kernel
theorem dX9_init_27 : decode cX9_init 27 = .ok (.iconst 0, 1) := by decide +kernel
theorem dX9_init_28 : decode cX9_init 28 = .ok (.putfield 23, 3) := by decide +kernel
theorem dX9_init_31 : decode cX9_init 31 = .ok (.aload_n 0, 1) := by decide +kernel
theorem dX9_init_32 : decode cX9_init 32 = .ok (.iconst 0, 1) := by decide +kernel
theorem dX9_init_33 : decode cX9_init 33 = .ok (.putfield 26, 3) := by decide +kernel
theorem dX9_init_36 : decode cX9_init 36 = .ok (.return_, 1) := by decide +kernel
theorem dX9_begin_0 : decode cX9_begin 0 = .ok (.aload_n 0, 1) := by decide +kernel
theorem dX9_begin_1 : decode cX9_begin 1 = .ok (.aload_n 1, 1) := by decide +kernel
theorem dX9_begin_2 : decode cX9_begin 2 = .ok (.putfield 7, 3) := by decide +kernel
theorem dX9_begin_5 : decode cX9_begin 5 = .ok (.aload_n 0, 1) := by decide +kernel
theorem dX9_begin_6 : decode cX9_begin 6 = .ok (.iload_n 2, 1) := by decide +kernel
theorem dX9_begin_7 : decode cX9_begin 7 = .ok (.aload_n 1, 1) := by decide +kernel
theorem dX9_begin_8 : decode cX9_begin 8 = .ok (.arraylength, 1) := by decide +kernel
theorem dX9_begin_9 : decode cX9_begin 9 = .ok (.invokestatic 29, 3) := by decide +kernel
theorem dX9_begin_12 : decode cX9_begin 12 = .ok (.putfield 13, 3) := by decide +kernel
theorem dX9_begin_15 : decode cX9_begin 15 = .ok (.aload_n 0, 1) := by decide +kernel
theorem dX9_begin_16 : decode cX9_begin 16 = .ok (.iconst 0, 1) := by decide +kernel
theorem dX9_begin_17 : decode cX9_begin 17 = .ok (.putfield 20, 3) := by decide +kernel
theorem dX9_begin_20 : decode cX9_begin 20 = .ok (.aload_n 0, 1) := by decide +kernel
theorem dX9_begin_21 : decode cX9_begin 21 = .ok (.invokevirtual 35, 3) := by decide +kernel
theorem dX9_begin_24 : decode cX9_begin 24 = .ok (.return_, 1) := by decide +kernel
theorem dX9_next_0 : decode cX9_next 0 = .ok (.aload_n 0, 1) := by decide +kernel
theorem dX9_next_1 : decode cX9_next 1 = .ok (.aload_n 0, 1) := by decide +kernel
theorem dX9_next_2 : decode cX9_next 2 = .ok (.getfield 20, 3) := by decide +kernel
theorem dX9_next_5 : decode cX9_next 5 = .ok (.putfield 17, 3) := by decide +kernel
theorem dX9_next_8 : decode cX9_next 8 = .ok (.aload_n 0, 1) := by decide +kernel
theorem dX9_next_9 : decode cX9_next 9 = .ok (.getfield 17, 3) := by decide +kernel
theorem dX9_next_12 : decode cX9_next 12 = .ok (.aload_n 0, 1) := by decide +kernel
theorem dX9_next_13 : decode cX9_next 13 = .ok (.getfield 13, 3) := by decide +kernel
theorem dX9_next_16 : decode cX9_next 16 = .ok (.if_icmp .ge 44, 3) := by decide +kernel
theorem dX9_next_19 : decode cX9_next 19 = .ok (.aload_n 0, 1) := by decide +kernel
theorem dX9_next_20 : decode cX9_next 20 = .ok (.getfield 7, 3) := by decide +kernel
theorem dX9_next_23 : decode cX9_next 23 = .ok (.aload_n 0, 1) := by decide +kernel
theorem dX9_next_24 : decode cX9_next 24 = .ok (.getfield 17, 3) := by decide +kernel
theorem dX9_next_27 : decode cX9_next 27 = .ok (.iaload, 1) := by decide +kernel
theorem dX9_next_28 : decode cX9_next 28 = .ok (.bipush 32, 2) := by decide +kernel
theorem dX9_next_30 : decode cX9_next 30 = .ok (.if_icmp .eq 17, 3) := by decide +kernel
theorem dX9_next_33 : decode cX9_next 33 = .ok (.aload_n 0, 1) := by decide +kernel
theorem dX9_next_34 : decode cX9_next 34 = .ok (.getfield 7, 3) := by decide +kernel
theorem dX9_next_37 : decode cX9_next 37 = .ok (.aload_n 0, 1) := by decide +kernel
theorem dX9_next_38 : decode cX9_next 38 = .ok (.getfield 17, 3) := by decide +kernel
theorem dX9_next_41 : decode cX9_next 41 = .ok (.iaload, 1) := by decide +kernel
theorem dX9_next_42 : decode cX9_next 42 = .ok (.bipush 10, 2) := by decide +kernel
theorem dX9_next_44 : decode cX9_next 44 = .ok (.if_icmp .ne 16, 3) := by decide +kernel
theorem dX9_next_47 : decode cX9_next 47 = .ok (.aload_n 0, 1) := by decide +kernel
theorem dX9_next_48 : decode cX9_next 48 = .ok (.dup, 1) := by decide +kernel
theorem dX9_next_49 : decode cX9_next 49 = .ok (.getfield 17, 3) := by decide +kernel
theorem dX9_next_52 : decode cX9_next 52 = .ok (.iconst 1, 1) := by decide +kernel
theorem dX9_next_53 : decode cX9_next 53 = .ok (.iadd, 1) := by decide +kernel
theorem dX9_next_54 : decode cX9_next 54 = .ok (.putfield 17, 3) := by decide +kernel
theorem dX9_next_57 : decode cX9_next 57 = .ok (.goto (-49), 3) := by decide +kernel
theorem dX9_next_60 : decode cX9_next 60 = .ok (.aload_n 0, 1) := by decide +kernel
theorem dX9_next_61 : decode cX9_next 61 = .ok (.aload_n 0, 1) := by decide +kernel
theorem dX9_next_62 : decode cX9_next 62 = .ok (.getfield 17, 3) := by decide +kernel
theorem dX9_next_65 : decode cX9_next 65 = .ok (.putfield 20, 3) := by decide +kernel
theorem dX9_next_68 : decode cX9_next 68 = .ok (.aload_n 0, 1) := by decide +kernel
theorem dX9_next_69 : decode cX9_next 69 = .ok (.getfield 17, 3) := by decide +kernel
theorem dX9_next_72 : decode cX9_next 72 = .ok (.aload_n 0, 1) := by decide +kernel
theorem dX9_next_73 : decode cX9_next 73 = .ok (.getfield 13, 3) := by decide +kernel
theorem dX9_next_76 : decode cX9_next 76 = .ok (.if_icmp .lt 11, 3) := by decide +kernel
theorem dX9_next_79 : decode cX9_next 79 = .ok (.aload_n 0, 1) := by decide +kernel
theorem dX9_next_80 : decode cX9_next 80 = .ok (.iconst 0, 1) := by decide +kernel
theorem dX9_next_81 : decode cX9_next 81 = .ok (.putfield 23, 3) := by decide +kernel
theorem dX9_next_84 : decode cX9_next 84 = .ok (.goto 214, 3) := by decide +kernel
theorem dX9_next_87 : decode cX9_next 87 = .ok (.aload_n 0, 1) := by decide +kernel
theorem dX9_next_88 : decode cX9_next 88 = .ok (.getfield 7, 3) := by decide +kernel
theorem dX9_next_91 : decode cX9_next 91 = .ok (.aload_n 0, 1) := by decide +kernel
theorem dX9_next_92 : decode cX9_next 92 = .ok (.getfield 17, 3) := by decide +kernel
theorem dX9_next_95 : decode cX9_next 95 = .ok (.iaload, 1) := by decide +kernel
theorem dX9_next_96 : decode cX9_next 96 = .ok (.invokestatic 38, 3) := by decide +kernel
theorem dX9_next_99 : decode cX9_next 99 = .ok (.ifCond .eq 47, 3) := by decide +kernel
theorem dX9_next_102 : decode cX9_next 102 = .ok (.aload_n 0, 1) := by decide +kernel
theorem dX9_next_103 : decode cX9_next 103 = .ok (.iconst 2, 1) := by decide +kernel
theorem dX9_next_104 : decode cX9_next 104 = .ok (.putfield 23, 3) := by decide +kernel
theorem dX9_next_107 : decode cX9_next 107 = .ok (.aload_n 0, 1) := by decide +kernel
theorem dX9_next_108 : decode cX9_next 108 = .ok (.getfield 20, 3) := by decide +kernel
theorem dX9_next_111 : decode cX9_next 111 = .ok (.aload_n 0, 1) := by decide +kernel
theorem dX9_next_112 : decode cX9_next 112 = .ok (.getfield 13, 3) := by decide +kernel
theorem dX9_next_115 : decode cX9_next 115 = .ok (.if_icmp .ge 183, 3) := by decide +kernel
theorem dX9_next_118 : decode cX9_next 118 = .ok (.aload_n 0, 1) := by decide +kernel
theorem dX9_next_119 : decode cX9_next 119 = .ok (.getfield 7, 3) := by decide +kernel
theorem dX9_next_122 : decode cX9_next 122 = .ok (.aload_n 0, 1) := by decide +kernel
theorem dX9_next_123 : decode cX9_next 123 = .ok (.getfield 20, 3) := by decide +kernel
theorem dX9_next_126 : decode cX9_next 126 = .ok (.iaload, 1) := by decide +kernel
theorem dX9_next_127 : decode cX9_next 127 = .ok (.invokestatic 38, 3) := by decide +kernel
theorem dX9_next_130 : decode cX9_next 130 = .ok (.ifCond .eq 168, 3) := by decide +kernel
theorem dX9_next_133 : decode cX9_next 133 = .ok (.aload_n 0, 1) := by decide +kernel
theorem dX9_next_134 : decode cX9_next 134 = .ok (.dup, 1) := by decide +kernel
theorem dX9_next_135 : decode cX9_next 135 = .ok (.getfield 20, 3) := by decide +kernel
theorem dX9_next_138 : decode cX9_next 138 = .ok (.iconst 1, 1) := by decide +kernel
theorem dX9_next_139 : decode cX9_next 139 = .ok (.iadd, 1) := by decide +kernel
theorem dX9_next_140 : decode cX9_next 140 = .ok (.putfield 20, 3) := by decide +kernel
theorem dX9_next_143 : decode cX9_next 143 = .ok (.goto (-36), 3) := by decide +kernel
theorem dX9_next_146 : decode cX9_next 146 = .ok (.aload_n 0, 1) := by decide +kernel
theorem dX9_next_147 : decode cX9_next 147 = .ok (.getfield 7, 3) := by decide +kernel
theorem dX9_next_150 : decode cX9_next 150 = .ok (.aload_n 0, 1) := by decide +kernel
theorem dX9_next_151 : decode cX9_next 151 = .ok (.getfield 17, 3) := by decide +kernel
theorem dX9_next_154 : decode cX9_next 154 = .ok (.iaload, 1) := by decide +kernel
theorem dX9_next_155 : decode cX9_next 155 = .ok (.invokestatic 42, 3) := by decide +kernel
theorem dX9_next_158 : decode cX9_next 158 = .ok (.ifCond .eq 95, 3) := by decide +kernel
theorem dX9_next_161 : decode cX9_next 161 = .ok (.aload_n 0, 1) := by decide +kernel
theorem dX9_next_162 : decode cX9_next 162 = .ok (.iconst 3, 1) := by decide +kernel
theorem dX9_next_163 : decode cX9_next 163 = .ok (.putfield 23, 3) := by decide +kernel
theorem dX9_next_166 : decode cX9_next 166 = .ok (.aload_n 0, 1) := by decide +kernel
theorem dX9_next_167 : decode cX9_next 167 = .ok (.iconst 0, 1) := by decide +kernel
theorem dX9_next_168 : decode cX9_next 168 = .ok (.putfield 26, 3) := by decide +kernel
theorem dX9_next_171 : decode cX9_next 171 = .ok (.aload_n 0, 1) := by decide +kernel
theorem dX9_next_172 : decode cX9_next 172 = .ok (.getfield 20, 3) := by decide +kernel
theorem dX9_next_175 : decode cX9_next 175 = .ok (.aload_n 0, 1) := by decide +kernel
theorem dX9_next_176 : decode cX9_next 176 = .ok (.getfield 13, 3) := by decide +kernel
theorem dX9_next_179 : decode cX9_next 179 = .ok (.if_icmp .ge 119, 3) := by decide +kernel
theorem dX9_next_182 : decode cX9_next 182 = .ok (.aload_n 0, 1) := by decide +kernel
theorem dX9_next_183 : decode cX9_next 183 = .ok (.getfield 7, 3) := by decide +kernel
theorem dX9_next_186 : decode cX9_next 186 = .ok (.aload_n 0, 1) := by decide +kernel
theorem dX9_next_187 : decode cX9_next 187 = .ok (.getfield 20, 3) := by decide +kernel
theorem dX9_next_190 : decode cX9_next 190 = .ok (.iaload, 1) := by decide +kernel
theorem dX9_next_191 : decode cX9_next 191 = .ok (.invokestatic 42, 3) := by decide +kernel
theorem dX9_next_194 : decode cX9_next 194 = .ok (.ifCond .eq 104, 3) := by decide +kernel
theorem dX9_next_197 : decode cX9_next 197 = .ok (.aload_n 0, 1) := by decide +kernel
theorem dX9_next_198 : decode cX9_next 198 = .ok (.aload_n 0, 1) := by decide +kernel
theorem dX9_next_199 : decode cX9_next 199 = .ok (.getfield 20, 3) := by decide +kernel
theorem dX9_next_202 : decode cX9_next 202 = .ok (.aload_n 0, 1) := by decide +kernel
theorem dX9_next_203 : decode cX9_next 203 = .ok (.getfield 17, 3) := by decide +kernel
theorem dX9_next_206 : decode cX9_next 206 = .ok (.isub, 1) := by decide +kernel
theorem dX9_next_207 : decode cX9_next 207 = .ok (.iconst 4, 1) := by decide +kernel
theorem dX9_next_208 : decode cX9_next 208 = .ok (.if_icmp .ge 26, 3) := by decide +kernel
theorem dX9_next_211 : decode cX9_next 211 = .ok (.aload_n 0, 1) := by decide +kernel
theorem dX9_next_212 : decode cX9_next 212 = .ok (.getfield 26, 3) := by decide +kernel
theorem dX9_next_215 : decode cX9_next 215 = .ok (.bipush 10, 2) := by decide +kernel
theorem dX9_next_217 : decode cX9_next 217 = .ok (.imul, 1) := by decide +kernel
theorem dX9_next_218 : decode cX9_next 218 = .ok (.aload_n 0, 1) := by decide +kernel
theorem dX9_next_219 : decode cX9_next 219 = .ok (.getfield 7, 3) := by decide +kernel
theorem dX9_next_222 : decode cX9_next 222 = .ok (.aload_n 0, 1) := by decide +kernel
theorem dX9_next_223 : decode cX9_next 223 = .ok (.getfield 20, 3) := by decide +kernel
theorem dX9_next_226 : decode cX9_next 226 = .ok (.iaload, 1) := by decide +kernel
theorem dX9_next_227 : decode cX9_next 227 = .ok (.iadd, 1) := by decide +kernel
theorem dX9_next_228 : decode cX9_next 228 = .ok (.bipush 48, 2) := by decide +kernel
theorem dX9_next_230 : decode cX9_next 230 = .ok (.isub, 1) := by decide +kernel
theorem dX9_next_231 : decode cX9_next 231 = .ok (.goto 6, 3) := by decide +kernel
theorem dX9_next_234 : decode cX9_next 234 = .ok (.sipush 10000, 3) := by decide +kernel
theorem dX9_next_237 : decode cX9_next 237 = .ok (.putfield 26, 3) := by decide +kernel
theorem dX9_next_240 : decode cX9_next 240 = .ok (.aload_n 0, 1) := by decide +kernel
theorem dX9_next_241 : decode cX9_next 241 = .ok (.dup, 1) := by decide +kernel
theorem dX9_next_242 : decode cX9_next 242 = .ok (.getfield 20, 3) := by decide +kernel
theorem dX9_next_245 : decode cX9_next 245 = .ok (.iconst 1, 1) := by decide +kernel
theorem dX9_next_246 : decode cX9_next 246 = .ok (.iadd, 1) := by decide +kernel
theorem dX9_next_247 : decode cX9_next 247 = .ok (.putfield 20, 3) := by decide +kernel
theorem dX9_next_250 : decode cX9_next 250 = .ok (.goto (-79), 3) := by decide +kernel
theorem dX9_next_253 : decode cX9_next 253 = .ok (.aload_n 0, 1) := by decide +kernel
theorem dX9_next_254 : decode cX9_next 254 = .ok (.ldc 45, 2) := by decide +kernel
theorem dX9_next_256 : decode cX9_next 256 = .ok (.aload_n 0, 1) := by decide +kernel
theorem dX9_next_257 : decode cX9_next 257 = .ok (.getfield 7, 3) := by decide +kernel
theorem dX9_next_260 : decode cX9_next 260 = .ok (.aload_n 0, 1) := by decide +kernel
theorem dX9_next_261 : decode cX9_next 261 = .ok (.getfield 17, 3) := by decide +kernel
theorem dX9_next_264 : decode cX9_next 264 = .ok (.iaload, 1) := by decide +kernel
theorem dX9_next_265 : decode cX9_next 265 = .ok (.i2c, 1) := by decide +kernel
theorem dX9_next_266 : decode cX9_next 266 = .ok (.invokevirtual 47, 3) := by decide +kernel
theorem dX9_next_269 : decode cX9_next 269 = .ok (.ifCond .lt 15, 3) := by decide +kernel
theorem dX9_next_272 : decode cX9_next 272 = .ok (.aload_n 0, 1) := by decide +kernel
theorem dX9_next_273 : decode cX9_next 273 = .ok (.getfield 7, 3) := by decide +kernel
theorem dX9_next_276 : decode cX9_next 276 = .ok (.aload_n 0, 1) := by decide +kernel
theorem dX9_next_277 : decode cX9_next 277 = .ok (.getfield 17, 3) := by decide +kernel
theorem dX9_next_280 : decode cX9_next 280 = .ok (.iaload, 1) := by decide +kernel
theorem dX9_next_281 : decode cX9_next 281 = .ok (.goto 4, 3) := by decide +kernel
theorem dX9_next_284 : decode cX9_next 284 = .ok (.iconst 1, 1) := by decide +kernel
theorem dX9_next_285 : decode cX9_next 285 = .ok (.putfield 23, 3) := by decide +kernel
theorem dX9_next_288 : decode cX9_next 288 = .ok (.aload_n 0, 1) := by decide +kernel
theorem dX9_next_289 : decode cX9_next 289 = .ok (.aload_n 0, 1) := by decide +kernel
theorem dX9_next_290 : decode cX9_next 290 = .ok (.getfield 17, 3) := by decide +kernel
theorem dX9_next_293 : decode cX9_next 293 = .ok (.iconst 1, 1) := by decide +kernel
theorem dX9_next_294 : decode cX9_next 294 = .ok (.iadd, 1) := by decide +kernel
theorem dX9_next_295 : decode cX9_next 295 = .ok (.putfield 20, 3) := by decide +kernel
theorem dX9_next_298 : decode cX9_next 298 = .ok (.return_, 1) := by decide +kernel
theorem dX9_isLetter_0 : decode cX9_isLetter 0 = .ok (.iload_n 0, 1) := by decide +kernel
theorem dX9_isLetter_1 : decode cX9_isLetter 1 = .ok (.bipush 97, 2) := by decide +kernel
theorem dX9_isLetter_3 : decode cX9_isLetter 3 = .ok (.if_icmp .lt 13, 3) := by decide +kernel
theorem dX9_isLetter_6 : decode cX9_isLetter 6 = .ok (.iload_n 0, 1) := by decide +kernel
theorem dX9_isLetter_7 : decode cX9_isLetter 7 = .ok (.bipush 122, 2) := by decide +kernel
theorem dX9_isLetter_9 : decode cX9_isLetter 9 = .ok (.if_icmp .gt 7, 3) := by decide +kernel
theorem dX9_isLetter_12 : decode cX9_isLetter 12 = .ok (.iconst 1, 1) := by decide +kernel
theorem dX9_isLetter_13 : decode cX9_isLetter 13 = .ok (.goto 4, 3) := by decide +kernel
theorem dX9_isLetter_16 : decode cX9_isLetter 16 = .ok (.iconst 0, 1) := by decide +kernel
theorem dX9_isLetter_17 : decode cX9_isLetter 17 = .ok (.ireturn, 1) := by decide +kernel
theorem dX9_isDigit_0 : decode cX9_isDigit 0 = .ok (.iload_n 0, 1) := by decide +kernel
theorem dX9_isDigit_1 : decode cX9_isDigit 1 = .ok (.bipush 48, 2) := by decide +kernel
theorem dX9_isDigit_3 : decode cX9_isDigit 3 = .ok (.if_icmp .lt 13, 3) := by decide +kernel
theorem dX9_isDigit_6 : decode cX9_isDigit 6 = .ok (.iload_n 0, 1) := by decide +kernel
theorem dX9_isDigit_7 : decode cX9_isDigit 7 = .ok (.bipush 57, 2) := by decide +kernel
theorem dX9_isDigit_9 : decode cX9_isDigit 9 = .ok (.if_icmp .gt 7, 3) := by decide +kernel
theorem dX9_isDigit_12 : decode cX9_isDigit 12 = .ok (.iconst 1, 1) := by decide +kernel
theorem dX9_isDigit_13 : decode cX9_isDigit 13 = .ok (.goto 4, 3) := by decide +kernel
theorem dX9_isDigit_16 : decode cX9_isDigit 16 = .ok (.iconst 0, 1) := by decide +kernel
theorem dX9_isDigit_17 : decode cX9_isDigit 17 = .ok (.ireturn, 1) := by decide +kernel
theorem dX9_letters_0 : decode cX9_letters 0 = .ok (.aload_n 0, 1) := by decide +kernel
theorem dX9_letters_1 : decode cX9_letters 1 = .ok (.getfield 20, 3) := by decide +kernel
theorem dX9_letters_4 : decode cX9_letters 4 = .ok (.aload_n 0, 1) := by decide +kernel
theorem dX9_letters_5 : decode cX9_letters 5 = .ok (.getfield 17, 3) := by decide +kernel
theorem dX9_letters_8 : decode cX9_letters 8 = .ok (.isub, 1) := by decide +kernel
theorem dX9_letters_9 : decode cX9_letters 9 = .ok (.ireturn, 1) := by decide +kernel
theorem dX9_letterAt_0 : decode cX9_letterAt 0 = .ok (.iload_n 1, 1) := by decide +kernel
theorem dX9_letterAt_1 : decode cX9_letterAt 1 = .ok (.ifCond .lt 31, 3) := by decide +kernel
theorem dX9_letterAt_4 : decode cX9_letterAt 4 = .ok (.aload_n 0, 1) := by decide +kernel
theorem dX9_letterAt_5 : decode cX9_letterAt 5 = .ok (.getfield 17, 3) := by decide +kernel
theorem dX9_letterAt_8 : decode cX9_letterAt 8 = .ok (.iload_n 1, 1) := by decide +kernel
theorem dX9_letterAt_9 : decode cX9_letterAt 9 = .ok (.iadd, 1) := by decide +kernel
theorem dX9_letterAt_10 : decode cX9_letterAt 10 = .ok (.aload_n 0, 1) := by decide +kernel
theorem dX9_letterAt_11 : decode cX9_letterAt 11 = .ok (.getfield 20, 3) := by decide +kernel
theorem dX9_letterAt_14 : decode cX9_letterAt 14 = .ok (.if_icmp .ge 18, 3) := by decide +kernel
theorem dX9_letterAt_17 : decode cX9_letterAt 17 = .ok (.aload_n 0, 1) := by decide +kernel
theorem dX9_letterAt_18 : decode cX9_letterAt 18 = .ok (.getfield 7, 3) := by decide +kernel
theorem dX9_letterAt_21 : decode cX9_letterAt 21 = .ok (.aload_n 0, 1) := by decide +kernel
theorem dX9_letterAt_22 : decode cX9_letterAt 22 = .ok (.getfield 17, 3) := by decide +kernel
theorem dX9_letterAt_25 : decode cX9_letterAt 25 = .ok (.iload_n 1, 1) := by decide +kernel
theorem dX9_letterAt_26 : decode cX9_letterAt 26 = .ok (.iadd, 1) := by decide +kernel
theorem dX9_letterAt_27 : decode cX9_letterAt 27 = .ok (.iaload, 1) := by decide +kernel
theorem dX9_letterAt_28 : decode cX9_letterAt 28 = .ok (.i2c, 1) := by decide +kernel
theorem dX9_letterAt_29 : decode cX9_letterAt 29 = .ok (.goto 5, 3) := by decide +kernel
theorem dX9_letterAt_32 : decode cX9_letterAt 32 = .ok (.bipush 32, 2) := by decide +kernel
theorem dX9_letterAt_34 : decode cX9_letterAt 34 = .ok (.ireturn, 1) := by decide +kernel
theorem dX9_isWord_0 : decode cX9_isWord 0 = .ok (.aload_n 0, 1) := by decide +kernel
theorem dX9_isWord_1 : decode cX9_isWord 1 = .ok (.getfield 23, 3) := by decide +kernel
theorem dX9_isWord_4 : decode cX9_isWord 4 = .ok (.iconst 2, 1) := by decide +kernel
theorem dX9_isWord_5 : decode cX9_isWord 5 = .ok (.if_icmp .ne 19, 3) := by decide +kernel
theorem dX9_isWord_8 : decode cX9_isWord 8 = .ok (.aload_n 0, 1) := by decide +kernel
theorem dX9_isWord_9 : decode cX9_isWord 9 = .ok (.getfield 20, 3) := by decide +kernel
theorem dX9_isWord_12 : decode cX9_isWord 12 = .ok (.aload_n 0, 1) := by decide +kernel
theorem dX9_isWord_13 : decode cX9_isWord 13 = .ok (.getfield 17, 3) := by decide +kernel
theorem dX9_isWord_16 : decode cX9_isWord 16 = .ok (.isub, 1) := by decide +kernel
theorem dX9_isWord_17 : decode cX9_isWord 17 = .ok (.aload_n 1, 1) := by decide +kernel
theorem dX9_isWord_18 : decode cX9_isWord 18 = .ok (.invokevirtual 53, 3) := by decide +kernel
theorem dX9_isWord_21 : decode cX9_isWord 21 = .ok (.if_icmp .eq 5, 3) := by decide +kernel
theorem dX9_isWord_24 : decode cX9_isWord 24 = .ok (.iconst 0, 1) := by decide +kernel
theorem dX9_isWord_25 : decode cX9_isWord 25 = .ok (.ireturn, 1) := by decide +kernel
theorem dX9_isWord_26 : decode cX9_isWord 26 = .ok (.iconst 0, 1) := by decide +kernel
theorem dX9_isWord_27 : decode cX9_isWord 27 = .ok (.istore_n 2, 1) := by decide +kernel
theorem dX9_isWord_28 : decode cX9_isWord 28 = .ok (.iload_n 2, 1) := by decide +kernel
theorem dX9_isWord_29 : decode cX9_isWord 29 = .ok (.aload_n 1, 1) := by decide +kernel
theorem dX9_isWord_30 : decode cX9_isWord 30 = .ok (.invokevirtual 53, 3) := by decide +kernel
theorem dX9_isWord_33 : decode cX9_isWord 33 = .ok (.if_icmp .ge 43, 3) := by decide +kernel
theorem dX9_isWord_36 : decode cX9_isWord 36 = .ok (.aload_n 0, 1) := by decide +kernel
theorem dX9_isWord_37 : decode cX9_isWord 37 = .ok (.getfield 17, 3) := by decide +kernel
theorem dX9_isWord_40 : decode cX9_isWord 40 = .ok (.iload_n 2, 1) := by decide +kernel
theorem dX9_isWord_41 : decode cX9_isWord 41 = .ok (.iadd, 1) := by decide +kernel
theorem dX9_isWord_42 : decode cX9_isWord 42 = .ok (.aload_n 0, 1) := by decide +kernel
theorem dX9_isWord_43 : decode cX9_isWord 43 = .ok (.getfield 13, 3) := by decide +kernel
theorem dX9_isWord_46 : decode cX9_isWord 46 = .ok (.if_icmp .ge 30, 3) := by decide +kernel
theorem dX9_isWord_49 : decode cX9_isWord 49 = .ok (.aload_n 0, 1) := by decide +kernel
theorem dX9_isWord_50 : decode cX9_isWord 50 = .ok (.getfield 7, 3) := by decide +kernel
theorem dX9_isWord_53 : decode cX9_isWord 53 = .ok (.aload_n 0, 1) := by decide +kernel
theorem dX9_isWord_54 : decode cX9_isWord 54 = .ok (.getfield 17, 3) := by decide +kernel
theorem dX9_isWord_57 : decode cX9_isWord 57 = .ok (.iload_n 2, 1) := by decide +kernel
theorem dX9_isWord_58 : decode cX9_isWord 58 = .ok (.iadd, 1) := by decide +kernel
theorem dX9_isWord_59 : decode cX9_isWord 59 = .ok (.iaload, 1) := by decide +kernel
theorem dX9_isWord_60 : decode cX9_isWord 60 = .ok (.aload_n 1, 1) := by decide +kernel
theorem dX9_isWord_61 : decode cX9_isWord 61 = .ok (.iload_n 2, 1) := by decide +kernel
theorem dX9_isWord_62 : decode cX9_isWord 62 = .ok (.invokevirtual 56, 3) := by decide +kernel
theorem dX9_isWord_65 : decode cX9_isWord 65 = .ok (.if_icmp .eq 5, 3) := by decide +kernel
theorem dX9_isWord_68 : decode cX9_isWord 68 = .ok (.iconst 0, 1) := by decide +kernel
theorem dX9_isWord_69 : decode cX9_isWord 69 = .ok (.ireturn, 1) := by decide +kernel
theorem dX9_isWord_70 : decode cX9_isWord 70 = .ok (.iinc 2 1, 3) := by decide +kernel
theorem dX9_isWord_73 : decode cX9_isWord 73 = .ok (.goto (-45), 3) := by decide +kernel
theorem dX9_isWord_76 : decode cX9_isWord 76 = .ok (.iconst 1, 1) := by decide +kernel
theorem dX9_isWord_77 : decode cX9_isWord 77 = .ok (.ireturn, 1) := by decide +kernel
theorem dX10_init_0 : decode cX10_init 0 = .ok (.aload_n 0, 1) := by decide +kernel
theorem dX10_init_1 : decode cX10_init 1 = .ok (.invokespecial 3, 3) := by decide +kernel
theorem dX10_init_4 : decode cX10_init 4 = .ok (.aload_n 0, 1) := by decide +kernel
theorem dX10_init_5 : decode cX10_init 5 = .ok (.sipush 1200, 3) := by decide +kernel
theorem dX10_init_8 : decode cX10_init 8 = .ok (.newarray .int, 2) := by decide +kernel
theorem dX10_init_10 : decode cX10_init 10 = .ok (.putfield 9, 3) := by decide +kernel
theorem dX10_init_13 : decode cX10_init 13 = .ok (.aload_n 0, 1) := by decide +kernel
theorem dX10_init_14 : decode cX10_init 14 = .ok (.sipush 1200, 3) := by decide +kernel
theorem dX10_init_17 : decode cX10_init 17 = .ok (.newarray .int, 2) := by decide +kernel
theorem dX10_init_19 : decode cX10_init 19 = .ok (.putfield 15, 3) := by decide +kernel
theorem dX10_init_22 : decode cX10_init 22 = .ok (.aload_n 0, 1) := by decide +kernel
theorem dX10_init_23 : decode cX10_init 23 = .ok (.bipush 6, 2) := by decide +kernel
theorem dX10_init_25 : decode cX10_init 25 = .ok (.newarray .int, 2) := by decide +kernel
theorem dX10_init_27 : decode cX10_init 27 = .ok (.putfield 20, 3) := by decide +kernel
theorem dX10_init_30 : decode cX10_init 30 = .ok (.return_, 1) := by decide +kernel
theorem dX10_plan_0 : decode cX10_plan 0 = .ok (.iconst 0, 1) := by decide +kernel
theorem dX10_plan_1 : decode cX10_plan 1 = .ok (.istore 4, 2) := by decide +kernel
theorem dX10_plan_3 : decode cX10_plan 3 = .ok (.iload 4, 2) := by decide +kernel
theorem dX10_plan_5 : decode cX10_plan 5 = .ok (.aload_n 1, 1) := by decide +kernel
theorem dX10_plan_6 : decode cX10_plan 6 = .ok (.getfield 23, 3) := by decide +kernel
theorem dX10_plan_9 : decode cX10_plan 9 = .ok (.if_icmp .ge 24, 3) := by decide +kernel
theorem dX10_plan_12 : decode cX10_plan 12 = .ok (.aload_n 0, 1) := by decide +kernel
theorem dX10_plan_13 : decode cX10_plan 13 = .ok (.aload_n 1, 1) := by decide +kernel
theorem dX10_plan_14 : decode cX10_plan 14 = .ok (.iload 4, 2) := by decide +kernel
theorem dX10_plan_16 : decode cX10_plan 16 = .ok (.aload_n 2, 1) := by decide +kernel
theorem dX10_plan_17 : decode cX10_plan 17 = .ok (.getfield 29, 3) := by decide +kernel
theorem dX10_plan_20 : decode cX10_plan 20 = .ok (.iload 4, 2) := by decide +kernel
theorem dX10_plan_22 : decode cX10_plan 22 = .ok (.iaload, 1) := by decide +kernel
theorem dX10_plan_23 : decode cX10_plan 23 = .ok (.iload_n 3, 1) := by decide +kernel
theorem dX10_plan_24 : decode cX10_plan 24 = .ok (.invokevirtual 34, 3) := by decide +kernel
theorem dX10_plan_27 : decode cX10_plan 27 = .ok (.iinc 4 1, 3) := by decide +kernel
theorem dX10_plan_30 : decode cX10_plan 30 = .ok (.goto (-27), 3) := by decide +kernel
theorem dX10_plan_33 : decode cX10_plan 33 = .ok (.aload_n 0, 1) := by decide +kernel
theorem dX10_plan_34 : decode cX10_plan 34 = .ok (.aload_n 1, 1) := by decide +kernel
theorem dX10_plan_35 : decode cX10_plan 35 = .ok (.getfield 23, 3) := by decide +kernel
theorem dX10_plan_38 : decode cX10_plan 38 = .ok (.invokevirtual 38, 3) := by decide +kernel
theorem dX10_plan_41 : decode cX10_plan 41 = .ok (.return_, 1) := by decide +kernel
theorem dX10_weigh_0 : decode cX10_weigh 0 = .ok (.aload_n 0, 1) := by decide +kernel
theorem dX10_weigh_1 : decode cX10_weigh 1 = .ok (.getfield 20, 3) := by decide +kernel
theorem dX10_weigh_4 : decode cX10_weigh 4 = .ok (.iconst 0, 1) := by decide +kernel
theorem dX10_weigh_5 : decode cX10_weigh 5 = .ok (.aload_n 1, 1) := by decide +kernel
theorem dX10_weigh_6 : decode cX10_weigh 6 = .ok (.getfield 42, 3) := by decide +kernel
theorem dX10_weigh_9 : decode cX10_weigh 9 = .ok (.iload_n 2, 1) := by decide +kernel
theorem dX10_weigh_10 : decode cX10_weigh 10 = .ok (.iaload, 1) := by decide +kernel
theorem dX10_weigh_11 : decode cX10_weigh 11 = .ok (.iastore, 1) := by decide +kernel
theorem dX10_weigh_12 : decode cX10_weigh 12 = .ok (.aload_n 0, 1) := by decide +kernel
theorem dX10_weigh_13 : decode cX10_weigh 13 = .ok (.getfield 20, 3) := by decide +kernel
theorem dX10_weigh_16 : decode cX10_weigh 16 = .ok (.iconst 2, 1) := by decide +kernel
theorem dX10_weigh_17 : decode cX10_weigh 17 = .ok (.iload_n 2, 1) := by decide +kernel
theorem dX10_weigh_18 : decode cX10_weigh 18 = .ok (.iastore, 1) := by decide +kernel
theorem dX10_weigh_19 : decode cX10_weigh 19 = .ok (.aload_n 0, 1) := by decide +kernel
theorem dX10_weigh_20 : decode cX10_weigh 20 = .ok (.getfield 20, 3) := by decide +kernel
theorem dX10_weigh_23 : decode cX10_weigh 23 = .ok (.iconst 4, 1) := by decide +kernel
theorem dX10_weigh_24 : decode cX10_weigh 24 = .ok (.aload_n 1, 1) := by decide +kernel
theorem dX10_weigh_25 : decode cX10_weigh 25 = .ok (.getfield 45, 3) := by decide +kernel
theorem dX10_weigh_28 : decode cX10_weigh 28 = .ok (.iload_n 2, 1) := by decide +kernel
theorem dX10_weigh_29 : decode cX10_weigh 29 = .ok (.iaload, 1) := by decide +kernel
theorem dX10_weigh_30 : decode cX10_weigh 30 = .ok (.iastore, 1) := by decide +kernel
theorem dX10_weigh_31 : decode cX10_weigh 31 = .ok (.iconst 0, 1) := by decide +kernel
theorem dX10_weigh_32 : decode cX10_weigh 32 = .ok (.istore 5, 2) := by decide +kernel
theorem dX10_weigh_34 : decode cX10_weigh 34 = .ok (.iload 5, 2) := by decide +kernel
theorem dX10_weigh_36 : decode cX10_weigh 36 = .ok (.sipush 240, 3) := by decide +kernel
theorem dX10_weigh_39 : decode cX10_weigh 39 = .ok (.if_icmp .ge 94, 3) := by decide +kernel
theorem dX10_weigh_42 : decode cX10_weigh 42 = .ok (.aload_n 1, 1) := by decide +kernel
theorem dX10_weigh_43 : decode cX10_weigh 43 = .ok (.getfield 42, 3) := by decide +kernel
theorem dX10_weigh_46 : decode cX10_weigh 46 = .ok (.iload_n 2, 1) := by decide +kernel
theorem dX10_weigh_47 : decode cX10_weigh 47 = .ok (.iaload, 1) := by decide +kernel
theorem dX10_weigh_48 : decode cX10_weigh 48 = .ok (.istore 6, 2) := by decide +kernel
theorem dX10_weigh_50 : decode cX10_weigh 50 = .ok (.iload 4, 2) := by decide +kernel
theorem dX10_weigh_52 : decode cX10_weigh 52 = .ok (.iconst (-1), 1) := by decide +kernel
theorem dX10_weigh_53 : decode cX10_weigh 53 = .ok (.if_icmp .eq 61, 3) := by decide +kernel
theorem dX10_weigh_56 : decode cX10_weigh 56 = .ok (.aload_n 0, 1) := by decide +kernel
theorem dX10_weigh_57 : decode cX10_weigh 57 = .ok (.getfield 20, 3) := by decide +kernel
theorem dX10_weigh_60 : decode cX10_weigh 60 = .ok (.iconst 1, 1) := by decide +kernel
theorem dX10_weigh_61 : decode cX10_weigh 61 = .ok (.iload_n 3, 1) := by decide +kernel
theorem dX10_weigh_62 : decode cX10_weigh 62 = .ok (.iload 5, 2) := by decide +kernel
theorem dX10_weigh_64 : decode cX10_weigh 64 = .ok (.invokestatic 48, 3) := by decide +kernel
theorem dX10_weigh_67 : decode cX10_weigh 67 = .ok (.iastore, 1) := by decide +kernel
theorem dX10_weigh_68 : decode cX10_weigh 68 = .ok (.aload_n 0, 1) := by decide +kernel
theorem dX10_weigh_69 : decode cX10_weigh 69 = .ok (.getfield 20, 3) := by decide +kernel
theorem dX10_weigh_72 : decode cX10_weigh 72 = .ok (.iconst 3, 1) := by decide +kernel
theorem dX10_weigh_73 : decode cX10_weigh 73 = .ok (.iload 5, 2) := by decide +kernel
theorem dX10_weigh_75 : decode cX10_weigh 75 = .ok (.bipush 24, 2) := by decide +kernel
theorem dX10_weigh_77 : decode cX10_weigh 77 = .ok (.irem, 1) := by decide +kernel
theorem dX10_weigh_78 : decode cX10_weigh 78 = .ok (.iastore, 1) := by decide +kernel
theorem dX10_weigh_79 : decode cX10_weigh 79 = .ok (.aload_n 0, 1) := by decide +kernel
theorem dX10_weigh_80 : decode cX10_weigh 80 = .ok (.getfield 20, 3) := by decide +kernel
theorem dX10_weigh_83 : decode cX10_weigh 83 = .ok (.iconst 5, 1) := by decide +kernel
theorem dX10_weigh_84 : decode cX10_weigh 84 = .ok (.iload_n 3, 1) := by decide +kernel
theorem dX10_weigh_85 : decode cX10_weigh 85 = .ok (.iload 5, 2) := by decide +kernel
theorem dX10_weigh_87 : decode cX10_weigh 87 = .ok (.invokestatic 52, 3) := by decide +kernel
theorem dX10_weigh_90 : decode cX10_weigh 90 = .ok (.ifCond .eq 7, 3) := by decide +kernel
theorem dX10_weigh_93 : decode cX10_weigh 93 = .ok (.iconst 1, 1) := by decide +kernel
theorem dX10_weigh_94 : decode cX10_weigh 94 = .ok (.goto 4, 3) := by decide +kernel
theorem dX10_weigh_97 : decode cX10_weigh 97 = .ok (.iconst 0, 1) := by decide +kernel
theorem dX10_weigh_98 : decode cX10_weigh 98 = .ok (.iastore, 1) := by decide +kernel
theorem dX10_weigh_99 : decode cX10_weigh 99 = .ok (.aload_n 1, 1) := by decide +kernel
theorem dX10_weigh_100 : decode cX10_weigh 100 = .ok (.getfield 56, 3) := by decide +kernel
theorem dX10_weigh_103 : decode cX10_weigh 103 = .ok (.iload 4, 2) := by decide +kernel
theorem dX10_weigh_105 : decode cX10_weigh 105 = .ok (.aload_n 0, 1) := by decide +kernel
theorem dX10_weigh_106 : decode cX10_weigh 106 = .ok (.getfield 20, 3) := by decide +kernel
theorem dX10_weigh_109 : decode cX10_weigh 109 = .ok (.invokevirtual 60, 3) := by decide +kernel
theorem dX10_weigh_112 : decode cX10_weigh 112 = .ok (.istore 6, 2) := by decide +kernel
theorem dX10_weigh_114 : decode cX10_weigh 114 = .ok (.aload_n 0, 1) := by decide +kernel
theorem dX10_weigh_115 : decode cX10_weigh 115 = .ok (.getfield 9, 3) := by decide +kernel
theorem dX10_weigh_118 : decode cX10_weigh 118 = .ok (.iload 5, 2) := by decide +kernel
theorem dX10_weigh_120 : decode cX10_weigh 120 = .ok (.iconst 5, 1) := by decide +kernel
theorem dX10_weigh_121 : decode cX10_weigh 121 = .ok (.imul, 1) := by decide +kernel
theorem dX10_weigh_122 : decode cX10_weigh 122 = .ok (.iload_n 2, 1) := by decide +kernel
theorem dX10_weigh_123 : decode cX10_weigh 123 = .ok (.iadd, 1) := by decide +kernel
theorem dX10_weigh_124 : decode cX10_weigh 124 = .ok (.iload 6, 2) := by decide +kernel
theorem dX10_weigh_126 : decode cX10_weigh 126 = .ok (.iastore, 1) := by decide +kernel
theorem dX10_weigh_127 : decode cX10_weigh 127 = .ok (.iinc 5 1, 3) := by decide +kernel
theorem dX10_weigh_130 : decode cX10_weigh 130 = .ok (.goto (-96), 3) := by decide +kernel
theorem dX10_weigh_133 : decode cX10_weigh 133 = .ok (.return_, 1) := by decide +kernel
theorem dX10_arrange_0 : decode cX10_arrange 0 = .ok (.iconst 0, 1) := by decide +kernel
theorem dX10_arrange_1 : decode cX10_arrange 1 = .ok (.istore_n 2, 1) := by decide +kernel
theorem dX10_arrange_2 : decode cX10_arrange 2 = .ok (.iload_n 2, 1) := by decide +kernel
theorem dX10_arrange_3 : decode cX10_arrange 3 = .ok (.sipush 240, 3) := by decide +kernel
theorem dX10_arrange_6 : decode cX10_arrange 6 = .ok (.if_icmp .ge 104, 3) := by decide +kernel
theorem dX10_arrange_9 : decode cX10_arrange 9 = .ok (.iload_n 2, 1) := by decide +kernel
theorem dX10_arrange_10 : decode cX10_arrange 10 = .ok (.iconst 5, 1) := by decide +kernel
theorem dX10_arrange_11 : decode cX10_arrange 11 = .ok (.imul, 1) := by decide +kernel
theorem dX10_arrange_12 : decode cX10_arrange 12 = .ok (.istore_n 3, 1) := by decide +kernel
theorem dX10_arrange_13 : decode cX10_arrange 13 = .ok (.iconst 0, 1) := by decide +kernel
theorem dX10_arrange_14 : decode cX10_arrange 14 = .ok (.istore 4, 2) := by decide +kernel
theorem dX10_arrange_16 : decode cX10_arrange 16 = .ok (.iload 4, 2) := by decide +kernel
theorem dX10_arrange_18 : decode cX10_arrange 18 = .ok (.iload_n 1, 1) := by decide +kernel
theorem dX10_arrange_19 : decode cX10_arrange 19 = .ok (.if_icmp .ge 85, 3) := by decide +kernel
theorem dX10_arrange_22 : decode cX10_arrange 22 = .ok (.iload 4, 2) := by decide +kernel
theorem dX10_arrange_24 : decode cX10_arrange 24 = .ok (.istore 5, 2) := by decide +kernel
theorem dX10_arrange_26 : decode cX10_arrange 26 = .ok (.iload 5, 2) := by decide +kernel
theorem dX10_arrange_28 : decode cX10_arrange 28 = .ok (.ifCond .le 59, 3) := by decide +kernel
theorem dX10_arrange_31 : decode cX10_arrange 31 = .ok (.aload_n 0, 1) := by decide +kernel
theorem dX10_arrange_32 : decode cX10_arrange 32 = .ok (.getfield 9, 3) := by decide +kernel
theorem dX10_arrange_35 : decode cX10_arrange 35 = .ok (.iload_n 3, 1) := by decide +kernel
theorem dX10_arrange_36 : decode cX10_arrange 36 = .ok (.aload_n 0, 1) := by decide +kernel
theorem dX10_arrange_37 : decode cX10_arrange 37 = .ok (.getfield 15, 3) := by decide +kernel
theorem dX10_arrange_40 : decode cX10_arrange 40 = .ok (.iload_n 3, 1) := by decide +kernel
theorem dX10_arrange_41 : decode cX10_arrange 41 = .ok (.iload 5, 2) := by decide +kernel
theorem dX10_arrange_43 : decode cX10_arrange 43 = .ok (.iadd, 1) := by decide +kernel
theorem dX10_arrange_44 : decode cX10_arrange 44 = .ok (.iconst 1, 1) := by decide +kernel
theorem dX10_arrange_45 : decode cX10_arrange 45 = .ok (.isub, 1) := by decide +kernel
theorem dX10_arrange_46 : decode cX10_arrange 46 = .ok (.iaload, 1) := by decide +kernel
theorem dX10_arrange_47 : decode cX10_arrange 47 = .ok (.iadd, 1) := by decide +kernel
theorem dX10_arrange_48 : decode cX10_arrange 48 = .ok (.iaload, 1) := by decide +kernel
theorem dX10_arrange_49 : decode cX10_arrange 49 = .ok (.aload_n 0, 1) := by decide +kernel
theorem dX10_arrange_50 : decode cX10_arrange 50 = .ok (.getfield 9, 3) := by decide +kernel
theorem dX10_arrange_53 : decode cX10_arrange 53 = .ok (.iload_n 3, 1) := by decide +kernel
theorem dX10_arrange_54 : decode cX10_arrange 54 = .ok (.iload 4, 2) := by decide +kernel
theorem dX10_arrange_56 : decode cX10_arrange 56 = .ok (.iadd, 1) := by decide +kernel
theorem dX10_arrange_57 : decode cX10_arrange 57 = .ok (.iaload, 1) := by decide +kernel
theorem dX10_arrange_58 : decode cX10_arrange 58 = .ok (.if_icmp .ge 29, 3) := by decide +kernel
theorem dX10_arrange_61 : decode cX10_arrange 61 = .ok (.aload_n 0, 1) := by decide +kernel
theorem dX10_arrange_62 : decode cX10_arrange 62 = .ok (.getfield 15, 3) := by decide +kernel
theorem dX10_arrange_65 : decode cX10_arrange 65 = .ok (.iload_n 3, 1) := by decide +kernel
theorem dX10_arrange_66 : decode cX10_arrange 66 = .ok (.iload 5, 2) := by decide +kernel
theorem dX10_arrange_68 : decode cX10_arrange 68 = .ok (.iadd, 1) := by decide +kernel
theorem dX10_arrange_69 : decode cX10_arrange 69 = .ok (.aload_n 0, 1) := by decide +kernel
theorem dX10_arrange_70 : decode cX10_arrange 70 = .ok (.getfield 15, 3) := by decide +kernel
theorem dX10_arrange_73 : decode cX10_arrange 73 = .ok (.iload_n 3, 1) := by decide +kernel
theorem dX10_arrange_74 : decode cX10_arrange 74 = .ok (.iload 5, 2) := by decide +kernel
theorem dX10_arrange_76 : decode cX10_arrange 76 = .ok (.iadd, 1) := by decide +kernel
theorem dX10_arrange_77 : decode cX10_arrange 77 = .ok (.iconst 1, 1) := by decide +kernel
theorem dX10_arrange_78 : decode cX10_arrange 78 = .ok (.isub, 1) := by decide +kernel
theorem dX10_arrange_79 : decode cX10_arrange 79 = .ok (.iaload, 1) := by decide +kernel
theorem dX10_arrange_80 : decode cX10_arrange 80 = .ok (.iastore, 1) := by decide +kernel
theorem dX10_arrange_81 : decode cX10_arrange 81 = .ok (.iinc 5 (-1), 3) := by decide +kernel
theorem dX10_arrange_84 : decode cX10_arrange 84 = .ok (.goto (-58), 3) := by decide +kernel
theorem dX10_arrange_87 : decode cX10_arrange 87 = .ok (.aload_n 0, 1) := by decide +kernel
theorem dX10_arrange_88 : decode cX10_arrange 88 = .ok (.getfield 15, 3) := by decide +kernel
theorem dX10_arrange_91 : decode cX10_arrange 91 = .ok (.iload_n 3, 1) := by decide +kernel
theorem dX10_arrange_92 : decode cX10_arrange 92 = .ok (.iload 5, 2) := by decide +kernel
theorem dX10_arrange_94 : decode cX10_arrange 94 = .ok (.iadd, 1) := by decide +kernel
theorem dX10_arrange_95 : decode cX10_arrange 95 = .ok (.iload 4, 2) := by decide +kernel
theorem dX10_arrange_97 : decode cX10_arrange 97 = .ok (.iastore, 1) := by decide +kernel
theorem dX10_arrange_98 : decode cX10_arrange 98 = .ok (.iinc 4 1, 3) := by decide +kernel
theorem dX10_arrange_101 : decode cX10_arrange 101 = .ok (.goto (-85), 3) := by decide +kernel
theorem dX10_arrange_104 : decode cX10_arrange 104 = .ok (.iinc 2 1, 3) := by decide +kernel
theorem dX10_arrange_107 : decode cX10_arrange 107 = .ok (.goto (-105), 3) := by decide +kernel
theorem dX10_arrange_110 : decode cX10_arrange 110 = .ok (.return_, 1) := by decide +kernel
theorem dX11_init_0 : decode cX11_init 0 = .ok (.aload_n 0, 1) := by decide +kernel
theorem dX11_init_1 : decode cX11_init 1 = .ok (.invokespecial 1, 3) := by decide +kernel
theorem dX11_init_4 : decode cX11_init 4 = .ok (.aload_n 0, 1) := by decide +kernel
theorem dX11_init_5 : decode cX11_init 5 = .ok (.sipush 700, 3) := by decide +kernel
theorem dX11_init_8 : decode cX11_init 8 = .ok (.newarray .int, 2) := by decide +kernel
theorem dX11_init_10 : decode cX11_init 10 = .ok (.putfield 9, 3) := by decide +kernel
theorem dX11_init_13 : decode cX11_init 13 = .ok (.aload_n 0, 1) := by decide +kernel
theorem dX11_init_14 : decode cX11_init 14 = .ok (.iconst 0, 1) := by decide +kernel
theorem dX11_init_15 : decode cX11_init 15 = .ok (.putfield 13, 3) := by decide +kernel
theorem dX11_init_18 : decode cX11_init 18 = .ok (.aload_n 0, 1) := by decide +kernel
theorem dX11_init_19 : decode cX11_init 19 = .ok (.iconst (-1), 1) := by decide +kernel
theorem dX11_init_20 : decode cX11_init 20 = .ok (.putfield 17, 3) := by decide +kernel
theorem dX11_init_23 : decode cX11_init 23 = .ok (.aload_n 0, 1) := by decide +kernel
theorem dX11_init_24 : decode cX11_init 24 = .ok (.iconst 3, 1) := by decide +kernel
theorem dX11_init_25 : decode cX11_init 25 = .ok (.newarray .int, 2) := by decide +kernel
theorem dX11_init_27 : decode cX11_init 27 = .ok (.putfield 20, 3) := by decide +kernel
theorem dX11_init_30 : decode cX11_init 30 = .ok (.aload_n 0, 1) := by decide +kernel
theorem dX11_init_31 : decode cX11_init 31 = .ok (.new 23, 3) := by decide +kernel
theorem dX11_init_34 : decode cX11_init 34 = .ok (.dup, 1) := by decide +kernel
theorem dX11_init_35 : decode cX11_init 35 = .ok (.invokespecial 25, 3) := by decide +kernel
theorem dX11_init_38 : decode cX11_init 38 = .ok (.putfield 26, 3) := by decide +kernel
theorem dX11_init_41 : decode cX11_init 41 = .ok (.aload_n 0, 1) := by decide +kernel
theorem dX11_init_42 : decode cX11_init 42 = .ok (.new 30, 3) := by decide +kernel
theorem dX11_init_45 : decode cX11_init 45 = .ok (.dup, 1) := by decide +kernel
theorem dX11_init_46 : decode cX11_init 46 = .ok (.invokespecial 32, 3) := by decide +kernel
theorem dX11_init_49 : decode cX11_init 49 = .ok (.putfield 33, 3) := by decide +kernel
theorem dX11_init_52 : decode cX11_init 52 = .ok (.aload_n 0, 1) := by decide +kernel
theorem dX11_init_53 : decode cX11_init 53 = .ok (.new 37, 3) := by decide +kernel
theorem dX11_init_56 : decode cX11_init 56 = .ok (.dup, 1) := by decide +kernel
theorem dX11_init_57 : decode cX11_init 57 = .ok (.invokespecial 39, 3) := by decide +kernel
theorem dX11_init_60 : decode cX11_init 60 = .ok (.putfield 40, 3) := by decide +kernel
theorem dX11_init_63 : decode cX11_init 63 = .ok (.aload_n 0, 1) := by decide +kernel
theorem dX11_init_64 : decode cX11_init 64 = .ok (.new 30, 3) := by decide +kernel
theorem dX11_init_67 : decode cX11_init 67 = .ok (.dup, 1) := by decide +kernel
theorem dX11_init_68 : decode cX11_init 68 = .ok (.invokespecial 32, 3) := by decide +kernel
theorem dX11_init_71 : decode cX11_init 71 = .ok (.putfield 44, 3) := by decide +kernel
theorem dX11_init_74 : decode cX11_init 74 = .ok (.aload_n 0, 1) := by decide +kernel
theorem dX11_init_75 : decode cX11_init 75 = .ok (.iconst 0, 1) := by decide +kernel
theorem dX11_init_76 : decode cX11_init 76 = .ok (.putfield 47, 3) := by decide +kernel
theorem dX11_init_79 : decode cX11_init 79 = .ok (.aload_n 0, 1) := by decide +kernel
theorem dX11_init_80 : decode cX11_init 80 = .ok (.sipush 1152, 3) := by decide +kernel
theorem dX11_init_83 : decode cX11_init 83 = .ok (.newarray .int, 2) := by decide +kernel
theorem dX11_init_85 : decode cX11_init 85 = .ok (.putfield 51, 3) := by decide +kernel
theorem dX11_init_88 : decode cX11_init 88 = .ok (.aload_n 0, 1) := by decide +kernel
theorem dX11_init_89 : decode cX11_init 89 = .ok (.new 54, 3) := by decide +kernel
theorem dX11_init_92 : decode cX11_init 92 = .ok (.dup, 1) := by decide +kernel
theorem dX11_init_93 : decode cX11_init 93 = .ok (.invokespecial 56, 3) := by decide +kernel
theorem dX11_init_96 : decode cX11_init 96 = .ok (.putfield 57, 3) := by decide +kernel
theorem dX11_init_99 : decode cX11_init 99 = .ok (.aload_n 0, 1) := by decide +kernel
theorem dX11_init_100 : decode cX11_init 100 = .ok (.new 61, 3) := by decide +kernel
theorem dX11_init_103 : decode cX11_init 103 = .ok (.dup, 1) := by decide +kernel
theorem dX11_init_104 : decode cX11_init 104 = .ok (.invokespecial 63, 3) := by decide +kernel
theorem dX11_init_107 : decode cX11_init 107 = .ok (.putfield 64, 3) := by decide +kernel
theorem dX11_init_110 : decode cX11_init 110 = .ok (.aload_n 0, 1) := by decide +kernel
theorem dX11_init_111 : decode cX11_init 111 = .ok (.iconst 0, 1) := by decide +kernel
theorem dX11_init_112 : decode cX11_init 112 = .ok (.putfield 68, 3) := by decide +kernel
theorem dX11_init_115 : decode cX11_init 115 = .ok (.aload_n 0, 1) := by decide +kernel
theorem dX11_init_116 : decode cX11_init 116 = .ok (.new 30, 3) := by decide +kernel
theorem dX11_init_119 : decode cX11_init 119 = .ok (.dup, 1) := by decide +kernel
theorem dX11_init_120 : decode cX11_init 120 = .ok (.invokespecial 32, 3) := by decide +kernel
theorem dX11_init_123 : decode cX11_init 123 = .ok (.putfield 71, 3) := by decide +kernel
theorem dX11_init_126 : decode cX11_init 126 = .ok (.aload_n 0, 1) := by decide +kernel
theorem dX11_init_127 : decode cX11_init 127 = .ok (.new 54, 3) := by decide +kernel
theorem dX11_init_130 : decode cX11_init 130 = .ok (.dup, 1) := by decide +kernel
theorem dX11_init_131 : decode cX11_init 131 = .ok (.invokespecial 56, 3) := by decide +kernel
theorem dX11_init_134 : decode cX11_init 134 = .ok (.putfield 74, 3) := by decide +kernel
theorem dX11_init_137 : decode cX11_init 137 = .ok (.aload_n 0, 1) := by decide +kernel
theorem dX11_init_138 : decode cX11_init 138 = .ok (.new 61, 3) := by decide +kernel
theorem dX11_init_141 : decode cX11_init 141 = .ok (.dup, 1) := by decide +kernel
theorem dX11_init_142 : decode cX11_init 142 = .ok (.invokespecial 63, 3) := by decide +kernel
theorem dX11_init_145 : decode cX11_init 145 = .ok (.putfield 77, 3) := by decide +kernel
theorem dX11_init_148 : decode cX11_init 148 = .ok (.aload_n 0, 1) := by decide +kernel
theorem dX11_init_149 : decode cX11_init 149 = .ok (.new 80, 3) := by decide +kernel
theorem dX11_init_152 : decode cX11_init 152 = .ok (.dup, 1) := by decide +kernel
theorem dX11_init_153 : decode cX11_init 153 = .ok (.invokespecial 82, 3) := by decide +kernel
theorem dX11_init_156 : decode cX11_init 156 = .ok (.putfield 83, 3) := by decide +kernel
theorem dX11_init_159 : decode cX11_init 159 = .ok (.aload_n 0, 1) := by decide +kernel
theorem dX11_init_160 : decode cX11_init 160 = .ok (.new 87, 3) := by decide +kernel
theorem dX11_init_163 : decode cX11_init 163 = .ok (.dup, 1) := by decide +kernel
theorem dX11_init_164 : decode cX11_init 164 = .ok (.invokespecial 89, 3) := by decide +kernel
theorem dX11_init_167 : decode cX11_init 167 = .ok (.putfield 90, 3) := by decide +kernel
theorem dX11_init_170 : decode cX11_init 170 = .ok (.aload_n 0, 1) := by decide +kernel
theorem dX11_init_171 : decode cX11_init 171 = .ok (.iconst 0, 1) := by decide +kernel
theorem dX11_init_172 : decode cX11_init 172 = .ok (.putfield 94, 3) := by decide +kernel
theorem dX11_init_175 : decode cX11_init 175 = .ok (.return_, 1) := by decide +kernel
theorem dX11_feed_0 : decode cX11_feed 0 = .ok (.aload_n 0, 1) := by decide +kernel
theorem dX11_feed_1 : decode cX11_feed 1 = .ok (.getfield 13, 3) := by decide +kernel
theorem dX11_feed_4 : decode cX11_feed 4 = .ok (.bipush 20, 2) := by decide +kernel
theorem dX11_feed_6 : decode cX11_feed 6 = .ok (.iadd, 1) := by decide +kernel
theorem dX11_feed_7 : decode cX11_feed 7 = .ok (.sipush 700, 3) := by decide +kernel
theorem dX11_feed_10 : decode cX11_feed 10 = .ok (.if_icmp .le 5, 3) := by decide +kernel
theorem dX11_feed_13 : decode cX11_feed 13 = .ok (.iconst (-1), 1) := by decide +kernel
theorem dX11_feed_14 : decode cX11_feed 14 = .ok (.ireturn, 1) := by decide +kernel
theorem dX11_feed_15 : decode cX11_feed 15 = .ok (.aload_n 0, 1) := by decide +kernel
theorem dX11_feed_16 : decode cX11_feed 16 = .ok (.iload_n 1, 1) := by decide +kernel
theorem dX11_feed_17 : decode cX11_feed 17 = .ok (.invokevirtual 97, 3) := by decide +kernel
theorem dX11_feed_20 : decode cX11_feed 20 = .ok (.aload_n 0, 1) := by decide +kernel
theorem dX11_feed_21 : decode cX11_feed 21 = .ok (.iload_n 2, 1) := by decide +kernel
theorem dX11_feed_22 : decode cX11_feed 22 = .ok (.invokevirtual 97, 3) := by decide +kernel
theorem dX11_feed_25 : decode cX11_feed 25 = .ok (.aload_n 0, 1) := by decide +kernel
theorem dX11_feed_26 : decode cX11_feed 26 = .ok (.iload_n 3, 1) := by decide +kernel
theorem dX11_feed_27 : decode cX11_feed 27 = .ok (.invokevirtual 97, 3) := by decide +kernel
theorem dX11_feed_30 : decode cX11_feed 30 = .ok (.aload_n 0, 1) := by decide +kernel
theorem dX11_feed_31 : decode cX11_feed 31 = .ok (.iload 4, 2) := by decide +kernel
theorem dX11_feed_33 : decode cX11_feed 33 = .ok (.invokevirtual 97, 3) := by decide +kernel
theorem dX11_feed_36 : decode cX11_feed 36 = .ok (.aload_n 0, 1) := by decide +kernel
theorem dX11_feed_37 : decode cX11_feed 37 = .ok (.iload 5, 2) := by decide +kernel
theorem dX11_feed_39 : decode cX11_feed 39 = .ok (.invokevirtual 97, 3) := by decide +kernel
theorem dX11_feed_42 : decode cX11_feed 42 = .ok (.aload_n 0, 1) := by decide +kernel
theorem dX11_feed_43 : decode cX11_feed 43 = .ok (.getfield 13, 3) := by decide +kernel
theorem dX11_feed_46 : decode cX11_feed 46 = .ok (.ireturn, 1) := by decide +kernel
theorem dX11_coast_0 : decode cX11_coast 0 = .ok (.iload_n 1, 1) := by decide +kernel
theorem dX11_coast_1 : decode cX11_coast 1 = .ok (.ifCond .lt 11, 3) := by decide +kernel
theorem dX11_coast_4 : decode cX11_coast 4 = .ok (.iload_n 1, 1) := by decide +kernel
theorem dX11_coast_5 : decode cX11_coast 5 = .ok (.aload_n 0, 1) := by decide +kernel
theorem dX11_coast_6 : decode cX11_coast 6 = .ok (.getfield 13, 3) := by decide +kernel
theorem dX11_coast_9 : decode cX11_coast 9 = .ok (.if_icmp .le 13, 3) := by decide +kernel
theorem dX11_coast_12 : decode cX11_coast 12 = .ok (.new 101, 3) := by decide +kernel
theorem dX11_coast_15 : decode cX11_coast 15 = .ok (.dup, 1) := by decide +kernel
theorem dX11_coast_16 : decode cX11_coast 16 = .ok (.ldc 103, 2) := by decide +kernel
theorem dX11_coast_18 : decode cX11_coast 18 = .ok (.invokespecial 105, 3) := by decide +kernel
theorem dX11_coast_21 : decode cX11_coast 21 = .ok (.athrow, 1) := by decide +kernel
theorem dX11_coast_22 : decode cX11_coast 22 = .ok (.aload_n 0, 1) := by decide +kernel
theorem dX11_coast_23 : decode cX11_coast 23 = .ok (.getfield 40, 3) := by decide +kernel
theorem dX11_coast_26 : decode cX11_coast 26 = .ok (.aload_n 0, 1) := by decide +kernel
theorem dX11_coast_27 : decode cX11_coast 27 = .ok (.getfield 9, 3) := by decide +kernel
theorem dX11_coast_30 : decode cX11_coast 30 = .ok (.iload_n 1, 1) := by decide +kernel
theorem dX11_coast_31 : decode cX11_coast 31 = .ok (.invokevirtual 108, 3) := by decide +kernel
theorem dX11_coast_34 : decode cX11_coast 34 = .ok (.istore_n 2, 1) := by decide +kernel
theorem dX11_coast_35 : decode cX11_coast 35 = .ok (.aload_n 0, 1) := by decide +kernel
theorem dX11_coast_36 : decode cX11_coast 36 = .ok (.iconst 0, 1) := by decide +kernel
theorem dX11_coast_37 : decode cX11_coast 37 = .ok (.putfield 13, 3) := by decide +kernel
theorem dX11_coast_40 : decode cX11_coast 40 = .ok (.iload_n 2, 1) := by decide +kernel
theorem dX11_coast_41 : decode cX11_coast 41 = .ok (.ifCond .eq 26, 3) := by decide +kernel
theorem dX11_coast_44 : decode cX11_coast 44 = .ok (.aload_n 0, 1) := by decide +kernel
theorem dX11_coast_45 : decode cX11_coast 45 = .ok (.aload_n 0, 1) := by decide +kernel
theorem dX11_coast_46 : decode cX11_coast 46 = .ok (.getfield 40, 3) := by decide +kernel
theorem dX11_coast_49 : decode cX11_coast 49 = .ok (.getfield 112, 3) := by decide +kernel
theorem dX11_coast_52 : decode cX11_coast 52 = .ok (.putfield 17, 3) := by decide +kernel
theorem dX11_coast_55 : decode cX11_coast 55 = .ok (.aload_n 0, 1) := by decide +kernel
theorem dX11_coast_56 : decode cX11_coast 56 = .ok (.getfield 20, 3) := by decide +kernel
theorem dX11_coast_59 : decode cX11_coast 59 = .ok (.iconst 0, 1) := by decide +kernel
theorem dX11_coast_60 : decode cX11_coast 60 = .ok (.dup2, 1) := by decide +kernel
theorem dX11_coast_61 : decode cX11_coast 61 = .ok (.iaload, 1) := by decide +kernel
theorem dX11_coast_62 : decode cX11_coast 62 = .ok (.iconst 1, 1) := by decide +kernel
theorem dX11_coast_63 : decode cX11_coast 63 = .ok (.iadd, 1) := by decide +kernel
theorem dX11_coast_64 : decode cX11_coast 64 = .ok (.iastore, 1) := by decide +kernel
theorem dX11_coast_65 : decode cX11_coast 65 = .ok (.iload_n 2, 1) := by decide +kernel
theorem dX11_coast_66 : decode cX11_coast 66 = .ok (.ireturn, 1) := by decide +kernel
theorem dX11_coast_67 : decode cX11_coast 67 = .ok (.aload_n 0, 1) := by decide +kernel
theorem dX11_coast_68 : decode cX11_coast 68 = .ok (.iconst (-1), 1) := by decide +kernel
theorem dX11_coast_69 : decode cX11_coast 69 = .ok (.putfield 17, 3) := by decide +kernel
theorem dX11_coast_72 : decode cX11_coast 72 = .ok (.aload_n 0, 1) := by decide +kernel
theorem dX11_coast_73 : decode cX11_coast 73 = .ok (.invokevirtual 115, 3) := by decide +kernel
theorem dX11_coast_76 : decode cX11_coast 76 = .ok (.iconst 0, 1) := by decide +kernel
theorem dX11_coast_77 : decode cX11_coast 77 = .ok (.ireturn, 1) := by decide +kernel
theorem dX11_fault_0 : decode cX11_fault 0 = .ok (.aload_n 0, 1) := by decide +kernel
theorem dX11_fault_1 : decode cX11_fault 1 = .ok (.getfield 17, 3) := by decide +kernel
theorem dX11_fault_4 : decode cX11_fault 4 = .ok (.ireturn, 1) := by decide +kernel
theorem dX11_count_0 : decode cX11_count 0 = .ok (.iload_n 1, 1) := by decide +kernel
theorem dX11_count_1 : decode cX11_count 1 = .ok (.tableswitch 174 0 12 #[67, 75, 83, 91, 99, 107, 118, 126, 137, 148, 153, 160, 167], 67) := by decide +kernel
theorem dX11_count_68 : decode cX11_count 68 = .ok (.aload_n 0, 1) := by decide +kernel
theorem dX11_count_69 : decode cX11_count 69 = .ok (.getfield 26, 3) := by decide +kernel
theorem dX11_count_72 : decode cX11_count 72 = .ok (.getfield 118, 3) := by decide +kernel
theorem dX11_count_75 : decode cX11_count 75 = .ok (.ireturn, 1) := by decide +kernel
theorem dX11_count_76 : decode cX11_count 76 = .ok (.aload_n 0, 1) := by decide +kernel
theorem dX11_count_77 : decode cX11_count 77 = .ok (.getfield 26, 3) := by decide +kernel
theorem dX11_count_80 : decode cX11_count 80 = .ok (.getfield 121, 3) := by decide +kernel
theorem dX11_count_83 : decode cX11_count 83 = .ok (.ireturn, 1) := by decide +kernel
theorem dX11_count_84 : decode cX11_count 84 = .ok (.aload_n 0, 1) := by decide +kernel
theorem dX11_count_85 : decode cX11_count 85 = .ok (.getfield 26, 3) := by decide +kernel
theorem dX11_count_88 : decode cX11_count 88 = .ok (.getfield 124, 3) := by decide +kernel
theorem dX11_count_91 : decode cX11_count 91 = .ok (.ireturn, 1) := by decide +kernel
theorem dX11_count_92 : decode cX11_count 92 = .ok (.aload_n 0, 1) := by decide +kernel
theorem dX11_count_93 : decode cX11_count 93 = .ok (.getfield 26, 3) := by decide +kernel
theorem dX11_count_96 : decode cX11_count 96 = .ok (.getfield 127, 3) := by decide +kernel
theorem dX11_count_99 : decode cX11_count 99 = .ok (.ireturn, 1) := by decide +kernel
theorem dX11_count_100 : decode cX11_count 100 = .ok (.aload_n 0, 1) := by decide +kernel
theorem dX11_count_101 : decode cX11_count 101 = .ok (.getfield 26, 3) := by decide +kernel
theorem dX11_count_104 : decode cX11_count 104 = .ok (.getfield 130, 3) := by decide +kernel
theorem dX11_count_107 : decode cX11_count 107 = .ok (.ireturn, 1) := by decide +kernel
theorem dX11_count_108 : decode cX11_count 108 = .ok (.aload_n 0, 1) := by decide +kernel
theorem dX11_count_109 : decode cX11_count 109 = .ok (.getfield 26, 3) := by decide +kernel
theorem dX11_count_112 : decode cX11_count 112 = .ok (.getfield 133, 3) := by decide +kernel
theorem dX11_count_115 : decode cX11_count 115 = .ok (.getfield 137, 3) := by decide +kernel
theorem dX11_count_118 : decode cX11_count 118 = .ok (.ireturn, 1) := by decide +kernel
theorem dX11_count_119 : decode cX11_count 119 = .ok (.aload_n 0, 1) := by decide +kernel
theorem dX11_count_120 : decode cX11_count 120 = .ok (.getfield 33, 3) := by decide +kernel
theorem dX11_count_123 : decode cX11_count 123 = .ok (.getfield 142, 3) := by decide +kernel
theorem dX11_count_126 : decode cX11_count 126 = .ok (.ireturn, 1) := by decide +kernel
theorem dX11_count_127 : decode cX11_count 127 = .ok (.aload_n 0, 1) := by decide +kernel
theorem dX11_count_128 : decode cX11_count 128 = .ok (.getfield 33, 3) := by decide +kernel
theorem dX11_count_131 : decode cX11_count 131 = .ok (.getfield 145, 3) := by decide +kernel
theorem dX11_count_134 : decode cX11_count 134 = .ok (.getfield 149, 3) := by decide +kernel
theorem dX11_count_137 : decode cX11_count 137 = .ok (.ireturn, 1) := by decide +kernel
theorem dX11_count_138 : decode cX11_count 138 = .ok (.aload_n 0, 1) := by decide +kernel
theorem dX11_count_139 : decode cX11_count 139 = .ok (.getfield 33, 3) := by decide +kernel
theorem dX11_count_142 : decode cX11_count 142 = .ok (.getfield 154, 3) := by decide +kernel
theorem dX11_count_145 : decode cX11_count 145 = .ok (.getfield 158, 3) := by decide +kernel
theorem dX11_count_148 : decode cX11_count 148 = .ok (.ireturn, 1) := by decide +kernel
theorem dX11_count_149 : decode cX11_count 149 = .ok (.aload_n 0, 1) := by decide +kernel
theorem dX11_count_150 : decode cX11_count 150 = .ok (.getfield 13, 3) := by decide +kernel
theorem dX11_count_153 : decode cX11_count 153 = .ok (.ireturn, 1) := by decide +kernel
theorem dX11_count_154 : decode cX11_count 154 = .ok (.aload_n 0, 1) := by decide +kernel
theorem dX11_count_155 : decode cX11_count 155 = .ok (.getfield 20, 3) := by decide +kernel
theorem dX11_count_158 : decode cX11_count 158 = .ok (.iconst 0, 1) := by decide +kernel
theorem dX11_count_159 : decode cX11_count 159 = .ok (.iaload, 1) := by decide +kernel
theorem dX11_count_160 : decode cX11_count 160 = .ok (.ireturn, 1) := by decide +kernel
theorem dX11_count_161 : decode cX11_count 161 = .ok (.aload_n 0, 1) := by decide +kernel
theorem dX11_count_162 : decode cX11_count 162 = .ok (.getfield 20, 3) := by decide +kernel
theorem dX11_count_165 : decode cX11_count 165 = .ok (.iconst 1, 1) := by decide +kernel
theorem dX11_count_166 : decode cX11_count 166 = .ok (.iaload, 1) := by decide +kernel
theorem dX11_count_167 : decode cX11_count 167 = .ok (.ireturn, 1) := by decide +kernel
theorem dX11_count_168 : decode cX11_count 168 = .ok (.aload_n 0, 1) := by decide +kernel
theorem dX11_count_169 : decode cX11_count 169 = .ok (.getfield 20, 3) := by decide +kernel
theorem dX11_count_172 : decode cX11_count 172 = .ok (.iconst 2, 1) := by decide +kernel
theorem dX11_count_173 : decode cX11_count 173 = .ok (.iaload, 1) := by decide +kernel
theorem dX11_count_174 : decode cX11_count 174 = .ok (.ireturn, 1) := by decide +kernel
theorem dX11_count_175 : decode cX11_count 175 = .ok (.new 161, 3) := by decide +kernel
theorem dX11_count_178 : decode cX11_count 178 = .ok (.dup, 1) := by decide +kernel
theorem dX11_count_179 : decode cX11_count 179 = .ok (.ldc 163, 2) := by decide +kernel
theorem dX11_count_181 : decode cX11_count 181 = .ok (.invokespecial 165, 3) := by decide +kernel
theorem dX11_count_184 : decode cX11_count 184 = .ok (.athrow, 1) := by decide +kernel
theorem dX11_light_0 : decode cX11_light 0 = .ok (.aload_n 0, 1) := by decide +kernel
theorem dX11_light_1 : decode cX11_light 1 = .ok (.iload_n 1, 1) := by decide +kernel
theorem dX11_light_2 : decode cX11_light 2 = .ok (.invokevirtual 166, 3) := by decide +kernel
theorem dX11_light_5 : decode cX11_light 5 = .ok (.iload_n 2, 1) := by decide +kernel
theorem dX11_light_6 : decode cX11_light 6 = .ok (.tableswitch 112 0 6 #[42, 52, 62, 72, 82, 92, 102], 42) := by decide +kernel
theorem dX11_light_48 : decode cX11_light 48 = .ok (.aload_n 0, 1) := by decide +kernel
theorem dX11_light_49 : decode cX11_light 49 = .ok (.getfield 33, 3) := by decide +kernel
theorem dX11_light_52 : decode cX11_light 52 = .ok (.getfield 169, 3) := by decide +kernel
theorem dX11_light_55 : decode cX11_light 55 = .ok (.iload_n 1, 1) := by decide +kernel
theorem dX11_light_56 : decode cX11_light 56 = .ok (.iaload, 1) := by decide +kernel
theorem dX11_light_57 : decode cX11_light 57 = .ok (.ireturn, 1) := by decide +kernel
theorem dX11_light_58 : decode cX11_light 58 = .ok (.aload_n 0, 1) := by decide +kernel
theorem dX11_light_59 : decode cX11_light 59 = .ok (.getfield 26, 3) := by decide +kernel
theorem dX11_light_62 : decode cX11_light 62 = .ok (.getfield 172, 3) := by decide +kernel
theorem dX11_light_65 : decode cX11_light 65 = .ok (.iload_n 1, 1) := by decide +kernel
theorem dX11_light_66 : decode cX11_light 66 = .ok (.iaload, 1) := by decide +kernel
theorem dX11_light_67 : decode cX11_light 67 = .ok (.ireturn, 1) := by decide +kernel
theorem dX11_light_68 : decode cX11_light 68 = .ok (.aload_n 0, 1) := by decide +kernel
theorem dX11_light_69 : decode cX11_light 69 = .ok (.getfield 33, 3) := by decide +kernel
theorem dX11_light_72 : decode cX11_light 72 = .ok (.getfield 175, 3) := by decide +kernel
theorem dX11_light_75 : decode cX11_light 75 = .ok (.iload_n 1, 1) := by decide +kernel
theorem dX11_light_76 : decode cX11_light 76 = .ok (.iaload, 1) := by decide +kernel
theorem dX11_light_77 : decode cX11_light 77 = .ok (.ireturn, 1) := by decide +kernel
theorem dX11_light_78 : decode cX11_light 78 = .ok (.aload_n 0, 1) := by decide +kernel
theorem dX11_light_79 : decode cX11_light 79 = .ok (.getfield 26, 3) := by decide +kernel
theorem dX11_light_82 : decode cX11_light 82 = .ok (.getfield 178, 3) := by decide +kernel
theorem dX11_light_85 : decode cX11_light 85 = .ok (.iload_n 1, 1) := by decide +kernel
theorem dX11_light_86 : decode cX11_light 86 = .ok (.iaload, 1) := by decide +kernel
theorem dX11_light_87 : decode cX11_light 87 = .ok (.ireturn, 1) := by decide +kernel
theorem dX11_light_88 : decode cX11_light 88 = .ok (.aload_n 0, 1) := by decide +kernel
theorem dX11_light_89 : decode cX11_light 89 = .ok (.getfield 26, 3) := by decide +kernel
theorem dX11_light_92 : decode cX11_light 92 = .ok (.getfield 181, 3) := by decide +kernel
theorem dX11_light_95 : decode cX11_light 95 = .ok (.iload_n 1, 1) := by decide +kernel
theorem dX11_light_96 : decode cX11_light 96 = .ok (.iaload, 1) := by decide +kernel
theorem dX11_light_97 : decode cX11_light 97 = .ok (.ireturn, 1) := by decide +kernel
theorem dX11_light_98 : decode cX11_light 98 = .ok (.aload_n 0, 1) := by decide +kernel
theorem dX11_light_99 : decode cX11_light 99 = .ok (.getfield 26, 3) := by decide +kernel
theorem dX11_light_102 : decode cX11_light 102 = .ok (.getfield 184, 3) := by decide +kernel
theorem dX11_light_105 : decode cX11_light 105 = .ok (.iload_n 1, 1) := by decide +kernel
theorem dX11_light_106 : decode cX11_light 106 = .ok (.iaload, 1) := by decide +kernel
theorem dX11_light_107 : decode cX11_light 107 = .ok (.ireturn, 1) := by decide +kernel
theorem dX11_light_108 : decode cX11_light 108 = .ok (.aload_n 0, 1) := by decide +kernel
theorem dX11_light_109 : decode cX11_light 109 = .ok (.getfield 26, 3) := by decide +kernel
theorem dX11_light_112 : decode cX11_light 112 = .ok (.getfield 187, 3) := by decide +kernel
theorem dX11_light_115 : decode cX11_light 115 = .ok (.iload_n 1, 1) := by decide +kernel
theorem dX11_light_116 : decode cX11_light 116 = .ok (.iaload, 1) := by decide +kernel
theorem dX11_light_117 : decode cX11_light 117 = .ok (.ireturn, 1) := by decide +kernel
theorem dX11_light_118 : decode cX11_light 118 = .ok (.new 161, 3) := by decide +kernel
theorem dX11_light_121 : decode cX11_light 121 = .ok (.dup, 1) := by decide +kernel
theorem dX11_light_122 : decode cX11_light 122 = .ok (.ldc 163, 2) := by decide +kernel
theorem dX11_light_124 : decode cX11_light 124 = .ok (.invokespecial 165, 3) := by decide +kernel
theorem dX11_light_127 : decode cX11_light 127 = .ok (.athrow, 1) := by decide +kernel
theorem dX11_ship_0 : decode cX11_ship 0 = .ok (.aload_n 0, 1) := by decide +kernel
theorem dX11_ship_1 : decode cX11_ship 1 = .ok (.iload_n 1, 1) := by decide +kernel
theorem dX11_ship_2 : decode cX11_ship 2 = .ok (.invokevirtual 190, 3) := by decide +kernel
theorem dX11_ship_5 : decode cX11_ship 5 = .ok (.iload_n 2, 1) := by decide +kernel
theorem dX11_ship_6 : decode cX11_ship 6 = .ok (.iconst 4, 1) := by decide +kernel
theorem dX11_ship_7 : decode cX11_ship 7 = .ok (.invokestatic 193, 3) := by decide +kernel
theorem dX11_ship_10 : decode cX11_ship 10 = .ok (.iload_n 2, 1) := by decide +kernel
theorem dX11_ship_11 : decode cX11_ship 11 = .ok (.ifCond .ne 13, 3) := by decide +kernel
theorem dX11_ship_14 : decode cX11_ship 14 = .ok (.aload_n 0, 1) := by decide +kernel
theorem dX11_ship_15 : decode cX11_ship 15 = .ok (.getfield 33, 3) := by decide +kernel
theorem dX11_ship_18 : decode cX11_ship 18 = .ok (.getfield 197, 3) := by decide +kernel
theorem dX11_ship_21 : decode cX11_ship 21 = .ok (.iload_n 1, 1) := by decide +kernel
theorem dX11_ship_22 : decode cX11_ship 22 = .ok (.iaload, 1) := by decide +kernel
theorem dX11_ship_23 : decode cX11_ship 23 = .ok (.ireturn, 1) := by decide +kernel
theorem dX11_ship_24 : decode cX11_ship 24 = .ok (.iload_n 2, 1) := by decide +kernel
theorem dX11_ship_25 : decode cX11_ship 25 = .ok (.iconst 1, 1) := by decide +kernel
theorem dX11_ship_26 : decode cX11_ship 26 = .ok (.if_icmp .ne 13, 3) := by decide +kernel
theorem dX11_ship_29 : decode cX11_ship 29 = .ok (.aload_n 0, 1) := by decide +kernel
theorem dX11_ship_30 : decode cX11_ship 30 = .ok (.getfield 33, 3) := by decide +kernel
theorem dX11_ship_33 : decode cX11_ship 33 = .ok (.getfield 200, 3) := by decide +kernel
theorem dX11_ship_36 : decode cX11_ship 36 = .ok (.iload_n 1, 1) := by decide +kernel
theorem dX11_ship_37 : decode cX11_ship 37 = .ok (.iaload, 1) := by decide +kernel
theorem dX11_ship_38 : decode cX11_ship 38 = .ok (.ireturn, 1) := by decide +kernel
theorem dX11_ship_39 : decode cX11_ship 39 = .ok (.aload_n 0, 1) := by decide +kernel
theorem dX11_ship_40 : decode cX11_ship 40 = .ok (.invokevirtual 203, 3) := by decide +kernel
theorem dX11_ship_43 : decode cX11_ship 43 = .ok (.iload_n 2, 1) := by decide +kernel
theorem dX11_ship_44 : decode cX11_ship 44 = .ok (.iconst 2, 1) := by decide +kernel
theorem dX11_ship_45 : decode cX11_ship 45 = .ok (.if_icmp .ne 14, 3) := by decide +kernel
theorem dX11_ship_48 : decode cX11_ship 48 = .ok (.aload_n 0, 1) := by decide +kernel
theorem dX11_ship_49 : decode cX11_ship 49 = .ok (.getfield 64, 3) := by decide +kernel
theorem dX11_ship_52 : decode cX11_ship 52 = .ok (.iload_n 1, 1) := by decide +kernel
theorem dX11_ship_53 : decode cX11_ship 53 = .ok (.invokevirtual 206, 3) := by decide +kernel
theorem dX11_ship_56 : decode cX11_ship 56 = .ok (.goto 11, 3) := by decide +kernel
theorem dX11_ship_59 : decode cX11_ship 59 = .ok (.aload_n 0, 1) := by decide +kernel
theorem dX11_ship_60 : decode cX11_ship 60 = .ok (.getfield 64, 3) := by decide +kernel
theorem dX11_ship_63 : decode cX11_ship 63 = .ok (.iload_n 1, 1) := by decide +kernel
theorem dX11_ship_64 : decode cX11_ship 64 = .ok (.invokevirtual 210, 3) := by decide +kernel
theorem dX11_ship_67 : decode cX11_ship 67 = .ok (.ireturn, 1) := by decide +kernel
theorem dX11_where_0 : decode cX11_where 0 = .ok (.aload_n 0, 1) := by decide +kernel
theorem dX11_where_1 : decode cX11_where 1 = .ok (.iload_n 1, 1) := by decide +kernel
theorem dX11_where_2 : decode cX11_where 2 = .ok (.invokevirtual 166, 3) := by decide +kernel
theorem dX11_where_5 : decode cX11_where 5 = .ok (.iload_n 2, 1) := by decide +kernel
theorem dX11_where_6 : decode cX11_where 6 = .ok (.invokestatic 213, 3) := by decide +kernel
theorem dX11_where_9 : decode cX11_where 9 = .ok (.aload_n 0, 1) := by decide +kernel
theorem dX11_where_10 : decode cX11_where 10 = .ok (.invokevirtual 203, 3) := by decide +kernel
theorem dX11_where_13 : decode cX11_where 13 = .ok (.aload_n 0, 1) := by decide +kernel
theorem dX11_where_14 : decode cX11_where 14 = .ok (.getfield 64, 3) := by decide +kernel
theorem dX11_where_17 : decode cX11_where 17 = .ok (.iload_n 1, 1) := by decide +kernel
theorem dX11_where_18 : decode cX11_where 18 = .ok (.iload_n 2, 1) := by decide +kernel
theorem dX11_where_19 : decode cX11_where 19 = .ok (.invokevirtual 216, 3) := by decide +kernel
theorem dX11_where_22 : decode cX11_where 22 = .ok (.ireturn, 1) := by decide +kernel
theorem dX11_lamp_0 : decode cX11_lamp 0 = .ok (.aload_n 0, 1) := by decide +kernel
theorem dX11_lamp_1 : decode cX11_lamp 1 = .ok (.iload_n 1, 1) := by decide +kernel
theorem dX11_lamp_2 : decode cX11_lamp 2 = .ok (.invokevirtual 166, 3) := by decide +kernel
theorem dX11_lamp_5 : decode cX11_lamp 5 = .ok (.iload_n 2, 1) := by decide +kernel
theorem dX11_lamp_6 : decode cX11_lamp 6 = .ok (.invokestatic 213, 3) := by decide +kernel
theorem dX11_lamp_9 : decode cX11_lamp 9 = .ok (.iload_n 3, 1) := by decide +kernel
theorem dX11_lamp_10 : decode cX11_lamp 10 = .ok (.iconst 2, 1) := by decide +kernel
theorem dX11_lamp_11 : decode cX11_lamp 11 = .ok (.invokestatic 193, 3) := by decide +kernel
theorem dX11_lamp_14 : decode cX11_lamp 14 = .ok (.iload_n 3, 1) := by decide +kernel
theorem dX11_lamp_15 : decode cX11_lamp 15 = .ok (.ifCond .ne 17, 3) := by decide +kernel
theorem dX11_lamp_18 : decode cX11_lamp 18 = .ok (.aload_n 0, 1) := by decide +kernel
theorem dX11_lamp_19 : decode cX11_lamp 19 = .ok (.getfield 33, 3) := by decide +kernel
theorem dX11_lamp_22 : decode cX11_lamp 22 = .ok (.getfield 175, 3) := by decide +kernel
theorem dX11_lamp_25 : decode cX11_lamp 25 = .ok (.iload_n 1, 1) := by decide +kernel
theorem dX11_lamp_26 : decode cX11_lamp 26 = .ok (.iaload, 1) := by decide +kernel
theorem dX11_lamp_27 : decode cX11_lamp 27 = .ok (.iload_n 2, 1) := by decide +kernel
theorem dX11_lamp_28 : decode cX11_lamp 28 = .ok (.invokestatic 220, 3) := by decide +kernel
theorem dX11_lamp_31 : decode cX11_lamp 31 = .ok (.ireturn, 1) := by decide +kernel
theorem dX11_lamp_32 : decode cX11_lamp 32 = .ok (.aload_n 0, 1) := by decide +kernel
theorem dX11_lamp_33 : decode cX11_lamp 33 = .ok (.getfield 33, 3) := by decide +kernel
theorem dX11_lamp_36 : decode cX11_lamp 36 = .ok (.getfield 175, 3) := by decide +kernel
theorem dX11_lamp_39 : decode cX11_lamp 39 = .ok (.iload_n 1, 1) := by decide +kernel
theorem dX11_lamp_40 : decode cX11_lamp 40 = .ok (.iaload, 1) := by decide +kernel
theorem dX11_lamp_41 : decode cX11_lamp 41 = .ok (.iload_n 2, 1) := by decide +kernel
theorem dX11_lamp_42 : decode cX11_lamp 42 = .ok (.invokestatic 223, 3) := by decide +kernel
theorem dX11_lamp_45 : decode cX11_lamp 45 = .ok (.ifCond .eq 7, 3) := by decide +kernel
theorem dX11_lamp_48 : decode cX11_lamp 48 = .ok (.iconst 1, 1) := by decide +kernel
theorem dX11_lamp_49 : decode cX11_lamp 49 = .ok (.goto 4, 3) := by decide +kernel
theorem dX11_lamp_52 : decode cX11_lamp 52 = .ok (.iconst 0, 1) := by decide +kernel
theorem dX11_lamp_53 : decode cX11_lamp 53 = .ok (.ireturn, 1) := by decide +kernel
theorem dX11_seen_0 : decode cX11_seen 0 = .ok (.aload_n 0, 1) := by decide +kernel
theorem dX11_seen_1 : decode cX11_seen 1 = .ok (.iload_n 1, 1) := by decide +kernel
theorem dX11_seen_2 : decode cX11_seen 2 = .ok (.invokevirtual 190, 3) := by decide +kernel
theorem dX11_seen_5 : decode cX11_seen 5 = .ok (.iload_n 2, 1) := by decide +kernel
theorem dX11_seen_6 : decode cX11_seen 6 = .ok (.invokestatic 213, 3) := by decide +kernel
theorem dX11_seen_9 : decode cX11_seen 9 = .ok (.aload_n 0, 1) := by decide +kernel
theorem dX11_seen_10 : decode cX11_seen 10 = .ok (.invokevirtual 203, 3) := by decide +kernel
theorem dX11_seen_13 : decode cX11_seen 13 = .ok (.aload_n 0, 1) := by decide +kernel
theorem dX11_seen_14 : decode cX11_seen 14 = .ok (.getfield 64, 3) := by decide +kernel
theorem dX11_seen_17 : decode cX11_seen 17 = .ok (.iload_n 1, 1) := by decide +kernel
theorem dX11_seen_18 : decode cX11_seen 18 = .ok (.iload_n 2, 1) := by decide +kernel
theorem dX11_seen_19 : decode cX11_seen 19 = .ok (.invokevirtual 227, 3) := by decide +kernel
theorem dX11_seen_22 : decode cX11_seen 22 = .ok (.ireturn, 1) := by decide +kernel
theorem dX11_watch_0 : decode cX11_watch 0 = .ok (.aload_n 0, 1) := by decide +kernel
theorem dX11_watch_1 : decode cX11_watch 1 = .ok (.iload_n 1, 1) := by decide +kernel
theorem dX11_watch_2 : decode cX11_watch 2 = .ok (.invokevirtual 190, 3) := by decide +kernel
theorem dX11_watch_5 : decode cX11_watch 5 = .ok (.iload_n 2, 1) := by decide +kernel
theorem dX11_watch_6 : decode cX11_watch 6 = .ok (.invokestatic 230, 3) := by decide +kernel
theorem dX11_watch_9 : decode cX11_watch 9 = .ok (.aload_n 0, 1) := by decide +kernel
theorem dX11_watch_10 : decode cX11_watch 10 = .ok (.invokevirtual 203, 3) := by decide +kernel
theorem dX11_watch_13 : decode cX11_watch 13 = .ok (.aload_n 0, 1) := by decide +kernel
theorem dX11_watch_14 : decode cX11_watch 14 = .ok (.getfield 64, 3) := by decide +kernel
theorem dX11_watch_17 : decode cX11_watch 17 = .ok (.iload_n 1, 1) := by decide +kernel
theorem dX11_watch_18 : decode cX11_watch 18 = .ok (.iload_n 2, 1) := by decide +kernel
theorem dX11_watch_19 : decode cX11_watch 19 = .ok (.bipush 31, 2) := by decide +kernel
theorem dX11_watch_21 : decode cX11_watch 21 = .ok (.invokevirtual 233, 3) := by decide +kernel
theorem dX11_watch_24 : decode cX11_watch 24 = .ok (.ireturn, 1) := by decide +kernel
theorem dX11_content_0 : decode cX11_content 0 = .ok (.iload_n 1, 1) := by decide +kernel
theorem dX11_content_1 : decode cX11_content 1 = .ok (.invokestatic 230, 3) := by decide +kernel
theorem dX11_content_4 : decode cX11_content 4 = .ok (.aload_n 0, 1) := by decide +kernel
theorem dX11_content_5 : decode cX11_content 5 = .ok (.invokevirtual 203, 3) := by decide +kernel
theorem dX11_content_8 : decode cX11_content 8 = .ok (.aload_n 0, 1) := by decide +kernel
theorem dX11_content_9 : decode cX11_content 9 = .ok (.getfield 64, 3) := by decide +kernel
theorem dX11_content_12 : decode cX11_content 12 = .ok (.aload_n 0, 1) := by decide +kernel
theorem dX11_content_13 : decode cX11_content 13 = .ok (.getfield 26, 3) := by decide +kernel
theorem dX11_content_16 : decode cX11_content 16 = .ok (.aload_n 0, 1) := by decide +kernel
theorem dX11_content_17 : decode cX11_content 17 = .ok (.getfield 33, 3) := by decide +kernel
theorem dX11_content_20 : decode cX11_content 20 = .ok (.iload_n 1, 1) := by decide +kernel
theorem dX11_content_21 : decode cX11_content 21 = .ok (.bipush 31, 2) := by decide +kernel
theorem dX11_content_23 : decode cX11_content 23 = .ok (.invokevirtual 237, 3) := by decide +kernel
theorem dX11_content_26 : decode cX11_content 26 = .ok (.ireturn, 1) := by decide +kernel
theorem dX11_met_0 : decode cX11_met 0 = .ok (.aload_n 0, 1) := by decide +kernel
theorem dX11_met_1 : decode cX11_met 1 = .ok (.iload_n 1, 1) := by decide +kernel
theorem dX11_met_2 : decode cX11_met 2 = .ok (.invokevirtual 166, 3) := by decide +kernel
theorem dX11_met_5 : decode cX11_met 5 = .ok (.aload_n 0, 1) := by decide +kernel
theorem dX11_met_6 : decode cX11_met 6 = .ok (.iload_n 2, 1) := by decide +kernel
theorem dX11_met_7 : decode cX11_met 7 = .ok (.invokevirtual 166, 3) := by decide +kernel
theorem dX11_met_10 : decode cX11_met 10 = .ok (.iload_n 1, 1) := by decide +kernel
theorem dX11_met_11 : decode cX11_met 11 = .ok (.iload_n 2, 1) := by decide +kernel
theorem dX11_met_12 : decode cX11_met 12 = .ok (.invokestatic 241, 3) := by decide +kernel
theorem dX11_met_15 : decode cX11_met 15 = .ok (.aload_n 0, 1) := by decide +kernel
theorem dX11_met_16 : decode cX11_met 16 = .ok (.invokevirtual 203, 3) := by decide +kernel
theorem dX11_met_19 : decode cX11_met 19 = .ok (.iconst 0, 1) := by decide +kernel
theorem dX11_met_20 : decode cX11_met 20 = .ok (.istore_n 3, 1) := by decide +kernel
theorem dX11_met_21 : decode cX11_met 21 = .ok (.iload_n 3, 1) := by decide +kernel
theorem dX11_met_22 : decode cX11_met 22 = .ok (.sipush 240, 3) := by decide +kernel
theorem dX11_met_25 : decode cX11_met 25 = .ok (.if_icmp .ge 40, 3) := by decide +kernel
theorem dX11_met_28 : decode cX11_met 28 = .ok (.aload_n 0, 1) := by decide +kernel
theorem dX11_met_29 : decode cX11_met 29 = .ok (.getfield 26, 3) := by decide +kernel
theorem dX11_met_32 : decode cX11_met 32 = .ok (.aload_n 0, 1) := by decide +kernel
theorem dX11_met_33 : decode cX11_met 33 = .ok (.getfield 64, 3) := by decide +kernel
theorem dX11_met_36 : decode cX11_met 36 = .ok (.iload_n 1, 1) := by decide +kernel
theorem dX11_met_37 : decode cX11_met 37 = .ok (.iload_n 3, 1) := by decide +kernel
theorem dX11_met_38 : decode cX11_met 38 = .ok (.invokevirtual 216, 3) := by decide +kernel
theorem dX11_met_41 : decode cX11_met 41 = .ok (.aload_n 0, 1) := by decide +kernel
theorem dX11_met_42 : decode cX11_met 42 = .ok (.getfield 64, 3) := by decide +kernel
theorem dX11_met_45 : decode cX11_met 45 = .ok (.iload_n 2, 1) := by decide +kernel
theorem dX11_met_46 : decode cX11_met 46 = .ok (.iload_n 3, 1) := by decide +kernel
theorem dX11_met_47 : decode cX11_met 47 = .ok (.invokevirtual 216, 3) := by decide +kernel
theorem dX11_met_50 : decode cX11_met 50 = .ok (.invokevirtual 244, 3) := by decide +kernel
theorem dX11_met_53 : decode cX11_met 53 = .ok (.iconst 1, 1) := by decide +kernel
theorem dX11_met_54 : decode cX11_met 54 = .ok (.if_icmp .gt 5, 3) := by decide +kernel
theorem dX11_met_57 : decode cX11_met 57 = .ok (.iload_n 3, 1) := by decide +kernel
theorem dX11_met_58 : decode cX11_met 58 = .ok (.ireturn, 1) := by decide +kernel
theorem dX11_met_59 : decode cX11_met 59 = .ok (.iinc 3 1, 3) := by decide +kernel
theorem dX11_met_62 : decode cX11_met 62 = .ok (.goto (-41), 3) := by decide +kernel
theorem dX11_met_65 : decode cX11_met 65 = .ok (.iconst (-1), 1) := by decide +kernel
theorem dX11_met_66 : decode cX11_met 66 = .ok (.ireturn, 1) := by decide +kernel
theorem dX11_fill_0 : decode cX11_fill 0 = .ok (.aload_n 0, 1) := by decide +kernel
theorem dX11_fill_1 : decode cX11_fill 1 = .ok (.iload_n 1, 1) := by decide +kernel
theorem dX11_fill_2 : decode cX11_fill 2 = .ok (.invokevirtual 166, 3) := by decide +kernel
theorem dX11_fill_5 : decode cX11_fill 5 = .ok (.iload_n 2, 1) := by decide +kernel
theorem dX11_fill_6 : decode cX11_fill 6 = .ok (.ifCond .lt 10, 3) := by decide +kernel
theorem dX11_fill_9 : decode cX11_fill 9 = .ok (.iload_n 2, 1) := by decide +kernel
theorem dX11_fill_10 : decode cX11_fill 10 = .ok (.sipush 200, 3) := by decide +kernel
theorem dX11_fill_13 : decode cX11_fill 13 = .ok (.if_icmp .le 8, 3) := by decide +kernel
theorem dX11_fill_16 : decode cX11_fill 16 = .ok (.aload_n 0, 1) := by decide +kernel
theorem dX11_fill_17 : decode cX11_fill 17 = .ok (.invokevirtual 247, 3) := by decide +kernel
theorem dX11_fill_20 : decode cX11_fill 20 = .ok (.ireturn, 1) := by decide +kernel
theorem dX11_fill_21 : decode cX11_fill 21 = .ok (.aload_n 0, 1) := by decide +kernel
theorem dX11_fill_22 : decode cX11_fill 22 = .ok (.iconst 0, 1) := by decide +kernel
theorem dX11_fill_23 : decode cX11_fill 23 = .ok (.iload_n 1, 1) := by decide +kernel
theorem dX11_fill_24 : decode cX11_fill 24 = .ok (.iload_n 2, 1) := by decide +kernel
theorem dX11_fill_25 : decode cX11_fill 25 = .ok (.invokevirtual 251, 3) := by decide +kernel
theorem dX11_fill_28 : decode cX11_fill 28 = .ok (.ireturn, 1) := by decide +kernel
theorem dX11_moor_0 : decode cX11_moor 0 = .ok (.aload_n 0, 1) := by decide +kernel
theorem dX11_moor_1 : decode cX11_moor 1 = .ok (.iload_n 1, 1) := by decide +kernel
theorem dX11_moor_2 : decode cX11_moor 2 = .ok (.invokevirtual 190, 3) := by decide +kernel
theorem dX11_moor_5 : decode cX11_moor 5 = .ok (.aload_n 0, 1) := by decide +kernel
theorem dX11_moor_6 : decode cX11_moor 6 = .ok (.iload_n 1, 1) := by decide +kernel
theorem dX11_moor_7 : decode cX11_moor 7 = .ok (.iload_n 2, 1) := by decide +kernel
theorem dX11_moor_8 : decode cX11_moor 8 = .ok (.invokevirtual 254, 3) := by decide +kernel
theorem dX11_moor_11 : decode cX11_moor 11 = .ok (.ifCond .ne 8, 3) := by decide +kernel
theorem dX11_moor_14 : decode cX11_moor 14 = .ok (.aload_n 0, 1) := by decide +kernel
theorem dX11_moor_15 : decode cX11_moor 15 = .ok (.invokevirtual 247, 3) := by decide +kernel
theorem dX11_moor_18 : decode cX11_moor 18 = .ok (.ireturn, 1) := by decide +kernel
theorem dX11_moor_19 : decode cX11_moor 19 = .ok (.aload_n 0, 1) := by decide +kernel
theorem dX11_moor_20 : decode cX11_moor 20 = .ok (.iconst 1, 1) := by decide +kernel
theorem dX11_moor_21 : decode cX11_moor 21 = .ok (.iload_n 1, 1) := by decide +kernel
theorem dX11_moor_22 : decode cX11_moor 22 = .ok (.iload_n 2, 1) := by decide +kernel
theorem dX11_moor_23 : decode cX11_moor 23 = .ok (.invokevirtual 251, 3) := by decide +kernel
theorem dX11_moor_26 : decode cX11_moor 26 = .ok (.ireturn, 1) := by decide +kernel
theorem dX11_push_0 : decode cX11_push 0 = .ok (.aload_n 0, 1) := by decide +kernel
theorem dX11_push_1 : decode cX11_push 1 = .ok (.iload_n 1, 1) := by decide +kernel
theorem dX11_push_2 : decode cX11_push 2 = .ok (.invokevirtual 166, 3) := by decide +kernel
theorem dX11_push_5 : decode cX11_push 5 = .ok (.aload_n 0, 1) := by decide +kernel
theorem dX11_push_6 : decode cX11_push 6 = .ok (.aload_n 0, 1) := by decide +kernel
theorem dX11_push_7 : decode cX11_push 7 = .ok (.getfield 33, 3) := by decide +kernel
theorem dX11_push_10 : decode cX11_push 10 = .ok (.iload_n 1, 1) := by decide +kernel
theorem dX11_push_11 : decode cX11_push 11 = .ok (.iload_n 2, 1) := by decide +kernel
theorem dX11_push_12 : decode cX11_push 12 = .ok (.invokevirtual 257, 3) := by decide +kernel
theorem dX11_push_15 : decode cX11_push 15 = .ok (.ifCond .ne 8, 3) := by decide +kernel
theorem dX11_push_18 : decode cX11_push 18 = .ok (.aload_n 0, 1) := by decide +kernel
theorem dX11_push_19 : decode cX11_push 19 = .ok (.invokevirtual 247, 3) := by decide +kernel
theorem dX11_push_22 : decode cX11_push 22 = .ok (.ireturn, 1) := by decide +kernel
theorem dX11_push_23 : decode cX11_push 23 = .ok (.aload_n 0, 1) := by decide +kernel
theorem dX11_push_24 : decode cX11_push 24 = .ok (.iconst 2, 1) := by decide +kernel
theorem dX11_push_25 : decode cX11_push 25 = .ok (.iload_n 1, 1) := by decide +kernel
theorem dX11_push_26 : decode cX11_push 26 = .ok (.iload_n 2, 1) := by decide +kernel
theorem dX11_push_27 : decode cX11_push 27 = .ok (.invokevirtual 251, 3) := by decide +kernel
theorem dX11_push_30 : decode cX11_push 30 = .ok (.ireturn, 1) := by decide +kernel
theorem dX11_obey_0 : decode cX11_obey 0 = .ok (.aload_n 0, 1) := by decide +kernel
theorem dX11_obey_1 : decode cX11_obey 1 = .ok (.iload_n 1, 1) := by decide +kernel
theorem dX11_obey_2 : decode cX11_obey 2 = .ok (.invokevirtual 261, 3) := by decide +kernel
theorem dX11_obey_5 : decode cX11_obey 5 = .ok (.ifCond .ne 10, 3) := by decide +kernel
theorem dX11_obey_8 : decode cX11_obey 8 = .ok (.aload_n 0, 1) := by decide +kernel
theorem dX11_obey_9 : decode cX11_obey 9 = .ok (.invokevirtual 247, 3) := by decide +kernel
theorem dX11_obey_12 : decode cX11_obey 12 = .ok (.pop, 1) := by decide +kernel
theorem dX11_obey_13 : decode cX11_obey 13 = .ok (.iconst 0, 1) := by decide +kernel
theorem dX11_obey_14 : decode cX11_obey 14 = .ok (.ireturn, 1) := by decide +kernel
theorem dX11_obey_15 : decode cX11_obey 15 = .ok (.aload_n 0, 1) := by decide +kernel
theorem dX11_obey_16 : decode cX11_obey 16 = .ok (.iconst 3, 1) := by decide +kernel
theorem dX11_obey_17 : decode cX11_obey 17 = .ok (.iconst 0, 1) := by decide +kernel
theorem dX11_obey_18 : decode cX11_obey 18 = .ok (.iload_n 1, 1) := by decide +kernel
theorem dX11_obey_19 : decode cX11_obey 19 = .ok (.invokevirtual 251, 3) := by decide +kernel
theorem dX11_obey_22 : decode cX11_obey 22 = .ok (.pop, 1) := by decide +kernel
theorem dX11_obey_23 : decode cX11_obey 23 = .ok (.iconst 1, 1) := by decide +kernel
theorem dX11_obey_24 : decode cX11_obey 24 = .ok (.ireturn, 1) := by decide +kernel
theorem dX11_want_0 : decode cX11_want 0 = .ok (.aload_n 0, 1) := by decide +kernel
theorem dX11_want_1 : decode cX11_want 1 = .ok (.iload_n 1, 1) := by decide +kernel
theorem dX11_want_2 : decode cX11_want 2 = .ok (.invokevirtual 190, 3) := by decide +kernel
theorem dX11_want_5 : decode cX11_want 5 = .ok (.iload_n 2, 1) := by decide +kernel
theorem dX11_want_6 : decode cX11_want 6 = .ok (.ifCond .lt 9, 3) := by decide +kernel
theorem dX11_want_9 : decode cX11_want 9 = .ok (.iload_n 2, 1) := by decide +kernel
theorem dX11_want_10 : decode cX11_want 10 = .ok (.bipush 12, 2) := by decide +kernel
theorem dX11_want_12 : decode cX11_want 12 = .ok (.if_icmp .le 8, 3) := by decide +kernel
theorem dX11_want_15 : decode cX11_want 15 = .ok (.aload_n 0, 1) := by decide +kernel
theorem dX11_want_16 : decode cX11_want 16 = .ok (.invokevirtual 247, 3) := by decide +kernel
theorem dX11_want_19 : decode cX11_want 19 = .ok (.ireturn, 1) := by decide +kernel
theorem dX11_want_20 : decode cX11_want 20 = .ok (.aload_n 0, 1) := by decide +kernel
theorem dX11_want_21 : decode cX11_want 21 = .ok (.iconst 4, 1) := by decide +kernel
theorem dX11_want_22 : decode cX11_want 22 = .ok (.iload_n 1, 1) := by decide +kernel
theorem dX11_want_23 : decode cX11_want 23 = .ok (.iload_n 2, 1) := by decide +kernel
theorem dX11_want_24 : decode cX11_want 24 = .ok (.invokevirtual 251, 3) := by decide +kernel
theorem dX11_want_27 : decode cX11_want 27 = .ok (.ireturn, 1) := by decide +kernel
theorem dX11_undo_0 : decode cX11_undo 0 = .ok (.aload_n 0, 1) := by decide +kernel
theorem dX11_undo_1 : decode cX11_undo 1 = .ok (.getfield 33, 3) := by decide +kernel
theorem dX11_undo_4 : decode cX11_undo 4 = .ok (.getfield 145, 3) := by decide +kernel
theorem dX11_undo_7 : decode cX11_undo 7 = .ok (.getfield 149, 3) := by decide +kernel
theorem dX11_undo_10 : decode cX11_undo 10 = .ok (.ifCond .gt 5, 3) := by decide +kernel
theorem dX11_undo_13 : decode cX11_undo 13 = .ok (.iconst (-1), 1) := by decide +kernel
theorem dX11_undo_14 : decode cX11_undo 14 = .ok (.ireturn, 1) := by decide +kernel
theorem dX11_undo_15 : decode cX11_undo 15 = .ok (.aload_n 0, 1) := by decide +kernel
theorem dX11_undo_16 : decode cX11_undo 16 = .ok (.getfield 33, 3) := by decide +kernel
theorem dX11_undo_19 : decode cX11_undo 19 = .ok (.invokevirtual 265, 3) := by decide +kernel
theorem dX11_undo_22 : decode cX11_undo 22 = .ok (.aload_n 0, 1) := by decide +kernel
theorem dX11_undo_23 : decode cX11_undo 23 = .ok (.iconst 0, 1) := by decide +kernel
theorem dX11_undo_24 : decode cX11_undo 24 = .ok (.putfield 68, 3) := by decide +kernel
theorem dX11_undo_27 : decode cX11_undo 27 = .ok (.aload_n 0, 1) := by decide +kernel
theorem dX11_undo_28 : decode cX11_undo 28 = .ok (.getfield 33, 3) := by decide +kernel
theorem dX11_undo_31 : decode cX11_undo 31 = .ok (.getfield 145, 3) := by decide +kernel
theorem dX11_undo_34 : decode cX11_undo 34 = .ok (.getfield 149, 3) := by decide +kernel
theorem dX11_undo_37 : decode cX11_undo 37 = .ok (.ireturn, 1) := by decide +kernel
theorem dX11_lamps_0 : decode cX11_lamps 0 = .ok (.iload_n 1, 1) := by decide +kernel
theorem dX11_lamps_1 : decode cX11_lamps 1 = .ok (.invokestatic 230, 3) := by decide +kernel
theorem dX11_lamps_4 : decode cX11_lamps 4 = .ok (.aload_n 0, 1) := by decide +kernel
theorem dX11_lamps_5 : decode cX11_lamps 5 = .ok (.invokevirtual 203, 3) := by decide +kernel
theorem dX11_lamps_8 : decode cX11_lamps 8 = .ok (.aload_n 0, 1) := by decide +kernel
theorem dX11_lamps_9 : decode cX11_lamps 9 = .ok (.getfield 64, 3) := by decide +kernel
theorem dX11_lamps_12 : decode cX11_lamps 12 = .ok (.aload_n 0, 1) := by decide +kernel
theorem dX11_lamps_13 : decode cX11_lamps 13 = .ok (.getfield 26, 3) := by decide +kernel
theorem dX11_lamps_16 : decode cX11_lamps 16 = .ok (.aload_n 0, 1) := by decide +kernel
theorem dX11_lamps_17 : decode cX11_lamps 17 = .ok (.getfield 33, 3) := by decide +kernel
theorem dX11_lamps_20 : decode cX11_lamps 20 = .ok (.iload_n 1, 1) := by decide +kernel
theorem dX11_lamps_21 : decode cX11_lamps 21 = .ok (.bipush 31, 2) := by decide +kernel
theorem dX11_lamps_23 : decode cX11_lamps 23 = .ok (.invokevirtual 237, 3) := by decide +kernel
theorem dX11_lamps_26 : decode cX11_lamps 26 = .ok (.istore_n 2, 1) := by decide +kernel
theorem dX11_lamps_27 : decode cX11_lamps 27 = .ok (.iconst 1, 1) := by decide +kernel
theorem dX11_lamps_28 : decode cX11_lamps 28 = .ok (.aload_n 0, 1) := by decide +kernel
theorem dX11_lamps_29 : decode cX11_lamps 29 = .ok (.getfield 26, 3) := by decide +kernel
theorem dX11_lamps_32 : decode cX11_lamps 32 = .ok (.getfield 127, 3) := by decide +kernel
theorem dX11_lamps_35 : decode cX11_lamps 35 = .ok (.ishl, 1) := by decide +kernel
theorem dX11_lamps_36 : decode cX11_lamps 36 = .ok (.iconst 1, 1) := by decide +kernel
theorem dX11_lamps_37 : decode cX11_lamps 37 = .ok (.isub, 1) := by decide +kernel
theorem dX11_lamps_38 : decode cX11_lamps 38 = .ok (.istore_n 3, 1) := by decide +kernel
theorem dX11_lamps_39 : decode cX11_lamps 39 = .ok (.iload_n 3, 1) := by decide +kernel
theorem dX11_lamps_40 : decode cX11_lamps 40 = .ok (.istore 4, 2) := by decide +kernel
theorem dX11_lamps_42 : decode cX11_lamps 42 = .ok (.iconst 0, 1) := by decide +kernel
theorem dX11_lamps_43 : decode cX11_lamps 43 = .ok (.istore 5, 2) := by decide +kernel
theorem dX11_lamps_45 : decode cX11_lamps 45 = .ok (.iload 5, 2) := by decide +kernel
theorem dX11_lamps_47 : decode cX11_lamps 47 = .ok (.iload_n 3, 1) := by decide +kernel
theorem dX11_lamps_48 : decode cX11_lamps 48 = .ok (.if_icmp .ge 50, 3) := by decide +kernel
theorem dX11_lamps_51 : decode cX11_lamps 51 = .ok (.iload 5, 2) := by decide +kernel
theorem dX11_lamps_53 : decode cX11_lamps 53 = .ok (.invokestatic 268, 3) := by decide +kernel
theorem dX11_lamps_56 : decode cX11_lamps 56 = .ok (.iload 4, 2) := by decide +kernel
theorem dX11_lamps_58 : decode cX11_lamps 58 = .ok (.invokestatic 268, 3) := by decide +kernel
theorem dX11_lamps_61 : decode cX11_lamps 61 = .ok (.if_icmp .ge 31, 3) := by decide +kernel
theorem dX11_lamps_64 : decode cX11_lamps 64 = .ok (.aload_n 0, 1) := by decide +kernel
theorem dX11_lamps_65 : decode cX11_lamps 65 = .ok (.getfield 64, 3) := by decide +kernel
theorem dX11_lamps_68 : decode cX11_lamps 68 = .ok (.aload_n 0, 1) := by decide +kernel
theorem dX11_lamps_69 : decode cX11_lamps 69 = .ok (.getfield 26, 3) := by decide +kernel
theorem dX11_lamps_72 : decode cX11_lamps 72 = .ok (.aload_n 0, 1) := by decide +kernel
theorem dX11_lamps_73 : decode cX11_lamps 73 = .ok (.getfield 33, 3) := by decide +kernel
theorem dX11_lamps_76 : decode cX11_lamps 76 = .ok (.iload_n 1, 1) := by decide +kernel
theorem dX11_lamps_77 : decode cX11_lamps 77 = .ok (.iload 5, 2) := by decide +kernel
theorem dX11_lamps_79 : decode cX11_lamps 79 = .ok (.invokevirtual 237, 3) := by decide +kernel
theorem dX11_lamps_82 : decode cX11_lamps 82 = .ok (.iload_n 2, 1) := by decide +kernel
theorem dX11_lamps_83 : decode cX11_lamps 83 = .ok (.iand, 1) := by decide +kernel
theorem dX11_lamps_84 : decode cX11_lamps 84 = .ok (.iload_n 2, 1) := by decide +kernel
theorem dX11_lamps_85 : decode cX11_lamps 85 = .ok (.if_icmp .ne 7, 3) := by decide +kernel
theorem dX11_lamps_88 : decode cX11_lamps 88 = .ok (.iload 5, 2) := by decide +kernel
theorem dX11_lamps_90 : decode cX11_lamps 90 = .ok (.istore 4, 2) := by decide +kernel
theorem dX11_lamps_92 : decode cX11_lamps 92 = .ok (.iinc 5 1, 3) := by decide +kernel
theorem dX11_lamps_95 : decode cX11_lamps 95 = .ok (.goto (-50), 3) := by decide +kernel
theorem dX11_lamps_98 : decode cX11_lamps 98 = .ok (.iload 4, 2) := by decide +kernel
theorem dX11_lamps_100 : decode cX11_lamps 100 = .ok (.ireturn, 1) := by decide +kernel
theorem dX11_signs_0 : decode cX11_signs 0 = .ok (.iload_n 1, 1) := by decide +kernel
theorem dX11_signs_1 : decode cX11_signs 1 = .ok (.invokestatic 230, 3) := by decide +kernel
theorem dX11_signs_4 : decode cX11_signs 4 = .ok (.iload_n 2, 1) := by decide +kernel
theorem dX11_signs_5 : decode cX11_signs 5 = .ok (.iconst 2, 1) := by decide +kernel
theorem dX11_signs_6 : decode cX11_signs 6 = .ok (.invokestatic 193, 3) := by decide +kernel
theorem dX11_signs_9 : decode cX11_signs 9 = .ok (.aload_n 0, 1) := by decide +kernel
theorem dX11_signs_10 : decode cX11_signs 10 = .ok (.invokevirtual 203, 3) := by decide +kernel
theorem dX11_signs_13 : decode cX11_signs 13 = .ok (.aload_n 0, 1) := by decide +kernel
theorem dX11_signs_14 : decode cX11_signs 14 = .ok (.getfield 90, 3) := by decide +kernel
theorem dX11_signs_17 : decode cX11_signs 17 = .ok (.aload_n 0, 1) := by decide +kernel
theorem dX11_signs_18 : decode cX11_signs 18 = .ok (.getfield 26, 3) := by decide +kernel
theorem dX11_signs_21 : decode cX11_signs 21 = .ok (.aload_n 0, 1) := by decide +kernel
theorem dX11_signs_22 : decode cX11_signs 22 = .ok (.getfield 64, 3) := by decide +kernel
theorem dX11_signs_25 : decode cX11_signs 25 = .ok (.iload_n 1, 1) := by decide +kernel
theorem dX11_signs_26 : decode cX11_signs 26 = .ok (.invokevirtual 273, 3) := by decide +kernel
theorem dX11_signs_29 : decode cX11_signs 29 = .ok (.iload_n 2, 1) := by decide +kernel
theorem dX11_signs_30 : decode cX11_signs 30 = .ok (.ifCond .ne 20, 3) := by decide +kernel
theorem dX11_signs_33 : decode cX11_signs 33 = .ok (.aload_n 0, 1) := by decide +kernel
theorem dX11_signs_34 : decode cX11_signs 34 = .ok (.getfield 90, 3) := by decide +kernel
theorem dX11_signs_37 : decode cX11_signs 37 = .ok (.aload_n 0, 1) := by decide +kernel
theorem dX11_signs_38 : decode cX11_signs 38 = .ok (.getfield 26, 3) := by decide +kernel
theorem dX11_signs_41 : decode cX11_signs 41 = .ok (.getfield 127, 3) := by decide +kernel
theorem dX11_signs_44 : decode cX11_signs 44 = .ok (.invokevirtual 277, 3) := by decide +kernel
theorem dX11_signs_47 : decode cX11_signs 47 = .ok (.goto 14, 3) := by decide +kernel
theorem dX11_signs_50 : decode cX11_signs 50 = .ok (.aload_n 0, 1) := by decide +kernel
theorem dX11_signs_51 : decode cX11_signs 51 = .ok (.getfield 90, 3) := by decide +kernel
theorem dX11_signs_54 : decode cX11_signs 54 = .ok (.aload_n 0, 1) := by decide +kernel
theorem dX11_signs_55 : decode cX11_signs 55 = .ok (.getfield 26, 3) := by decide +kernel
theorem dX11_signs_58 : decode cX11_signs 58 = .ok (.invokevirtual 280, 3) := by decide +kernel
theorem dX11_signs_61 : decode cX11_signs 61 = .ok (.ireturn, 1) := by decide +kernel
theorem dX11_who_0 : decode cX11_who 0 = .ok (.iload_n 2, 1) := by decide +kernel
theorem dX11_who_1 : decode cX11_who 1 = .ok (.iconst 1, 1) := by decide +kernel
theorem dX11_who_2 : decode cX11_who 2 = .ok (.if_icmp .lt 13, 3) := by decide +kernel
theorem dX11_who_5 : decode cX11_who 5 = .ok (.iload_n 2, 1) := by decide +kernel
theorem dX11_who_6 : decode cX11_who 6 = .ok (.bipush 12, 2) := by decide +kernel
theorem dX11_who_8 : decode cX11_who 8 = .ok (.if_icmp .gt 7, 3) := by decide +kernel
theorem dX11_who_11 : decode cX11_who 11 = .ok (.iload_n 1, 1) := by decide +kernel
theorem dX11_who_12 : decode cX11_who 12 = .ok (.ifCond .ge 14, 3) := by decide +kernel
theorem dX11_who_15 : decode cX11_who 15 = .ok (.new 101, 3) := by decide +kernel
theorem dX11_who_18 : decode cX11_who 18 = .ok (.dup, 1) := by decide +kernel
theorem dX11_who_19 : decode cX11_who 19 = .ok (.ldc_w 284, 3) := by decide +kernel
theorem dX11_who_22 : decode cX11_who 22 = .ok (.invokespecial 105, 3) := by decide +kernel
theorem dX11_who_25 : decode cX11_who 25 = .ok (.athrow, 1) := by decide +kernel
theorem dX11_who_26 : decode cX11_who 26 = .ok (.iconst 1, 1) := by decide +kernel
theorem dX11_who_27 : decode cX11_who 27 = .ok (.istore_n 3, 1) := by decide +kernel
theorem dX11_who_28 : decode cX11_who 28 = .ok (.iconst 0, 1) := by decide +kernel
theorem dX11_who_29 : decode cX11_who 29 = .ok (.istore 4, 2) := by decide +kernel
theorem dX11_who_31 : decode cX11_who 31 = .ok (.iload 4, 2) := by decide +kernel
theorem dX11_who_33 : decode cX11_who 33 = .ok (.iload_n 2, 1) := by decide +kernel
theorem dX11_who_34 : decode cX11_who 34 = .ok (.if_icmp .ge 13, 3) := by decide +kernel
theorem dX11_who_37 : decode cX11_who 37 = .ok (.iload_n 3, 1) := by decide +kernel
theorem dX11_who_38 : decode cX11_who 38 = .ok (.iconst 3, 1) := by decide +kernel
theorem dX11_who_39 : decode cX11_who 39 = .ok (.imul, 1) := by decide +kernel
theorem dX11_who_40 : decode cX11_who 40 = .ok (.istore_n 3, 1) := by decide +kernel
theorem dX11_who_41 : decode cX11_who 41 = .ok (.iinc 4 1, 3) := by decide +kernel
theorem dX11_who_44 : decode cX11_who 44 = .ok (.goto (-13), 3) := by decide +kernel
theorem dX11_who_47 : decode cX11_who 47 = .ok (.iload_n 1, 1) := by decide +kernel
theorem dX11_who_48 : decode cX11_who 48 = .ok (.iload_n 3, 1) := by decide +kernel
theorem dX11_who_49 : decode cX11_who 49 = .ok (.if_icmp .lt 14, 3) := by decide +kernel
theorem dX11_who_52 : decode cX11_who 52 = .ok (.new 101, 3) := by decide +kernel
theorem dX11_who_55 : decode cX11_who 55 = .ok (.dup, 1) := by decide +kernel
theorem dX11_who_56 : decode cX11_who 56 = .ok (.ldc_w 286, 3) := by decide +kernel
theorem dX11_who_59 : decode cX11_who 59 = .ok (.invokespecial 105, 3) := by decide +kernel
theorem dX11_who_62 : decode cX11_who 62 = .ok (.athrow, 1) := by decide +kernel
theorem dX11_who_63 : decode cX11_who 63 = .ok (.iconst 0, 1) := by decide +kernel
theorem dX11_who_64 : decode cX11_who 64 = .ok (.istore 4, 2) := by decide +kernel
theorem dX11_who_66 : decode cX11_who 66 = .ok (.iconst 0, 1) := by decide +kernel
theorem dX11_who_67 : decode cX11_who 67 = .ok (.istore 5, 2) := by decide +kernel
theorem dX11_who_69 : decode cX11_who 69 = .ok (.iload 5, 2) := by decide +kernel
theorem dX11_who_71 : decode cX11_who 71 = .ok (.aload_n 0, 1) := by decide +kernel
theorem dX11_who_72 : decode cX11_who 72 = .ok (.getfield 26, 3) := by decide +kernel
theorem dX11_who_75 : decode cX11_who 75 = .ok (.getfield 127, 3) := by decide +kernel
theorem dX11_who_78 : decode cX11_who 78 = .ok (.if_icmp .ge 32, 3) := by decide +kernel
theorem dX11_who_81 : decode cX11_who 81 = .ok (.aload_n 0, 1) := by decide +kernel
theorem dX11_who_82 : decode cX11_who 82 = .ok (.getfield 26, 3) := by decide +kernel
theorem dX11_who_85 : decode cX11_who 85 = .ok (.iload 5, 2) := by decide +kernel
theorem dX11_who_87 : decode cX11_who 87 = .ok (.iload_n 1, 1) := by decide +kernel
theorem dX11_who_88 : decode cX11_who 88 = .ok (.iload_n 2, 1) := by decide +kernel
theorem dX11_who_89 : decode cX11_who 89 = .ok (.invokevirtual 288, 3) := by decide +kernel
theorem dX11_who_92 : decode cX11_who 92 = .ok (.ifCond .eq 12, 3) := by decide +kernel
theorem dX11_who_95 : decode cX11_who 95 = .ok (.iload 4, 2) := by decide +kernel
theorem dX11_who_97 : decode cX11_who 97 = .ok (.iconst 1, 1) := by decide +kernel
theorem dX11_who_98 : decode cX11_who 98 = .ok (.iload 5, 2) := by decide +kernel
theorem dX11_who_100 : decode cX11_who 100 = .ok (.ishl, 1) := by decide +kernel
theorem dX11_who_101 : decode cX11_who 101 = .ok (.ior, 1) := by decide +kernel
theorem dX11_who_102 : decode cX11_who 102 = .ok (.istore 4, 2) := by decide +kernel
theorem dX11_who_104 : decode cX11_who 104 = .ok (.iinc 5 1, 3) := by decide +kernel
theorem dX11_who_107 : decode cX11_who 107 = .ok (.goto (-38), 3) := by decide +kernel
theorem dX11_who_110 : decode cX11_who 110 = .ok (.iload 4, 2) := by decide +kernel
theorem dX11_who_112 : decode cX11_who 112 = .ok (.ireturn, 1) := by decide +kernel
theorem dX11_visits_0 : decode cX11_visits 0 = .ok (.iload_n 1, 1) := by decide +kernel
theorem dX11_visits_1 : decode cX11_visits 1 = .ok (.invokestatic 213, 3) := by decide +kernel
theorem dX11_visits_4 : decode cX11_visits 4 = .ok (.aload_n 0, 1) := by decide +kernel
theorem dX11_visits_5 : decode cX11_visits 5 = .ok (.invokevirtual 203, 3) := by decide +kernel
theorem dX11_visits_8 : decode cX11_visits 8 = .ok (.aload_n 0, 1) := by decide +kernel
theorem dX11_visits_9 : decode cX11_visits 9 = .ok (.getfield 83, 3) := by decide +kernel
theorem dX11_visits_12 : decode cX11_visits 12 = .ok (.aload_n 0, 1) := by decide +kernel
theorem dX11_visits_13 : decode cX11_visits 13 = .ok (.getfield 26, 3) := by decide +kernel
theorem dX11_visits_16 : decode cX11_visits 16 = .ok (.aload_n 0, 1) := by decide +kernel
theorem dX11_visits_17 : decode cX11_visits 17 = .ok (.getfield 33, 3) := by decide +kernel
theorem dX11_visits_20 : decode cX11_visits 20 = .ok (.aload_n 0, 1) := by decide +kernel
theorem dX11_visits_21 : decode cX11_visits 21 = .ok (.getfield 64, 3) := by decide +kernel
theorem dX11_visits_24 : decode cX11_visits 24 = .ok (.iload_n 1, 1) := by decide +kernel
theorem dX11_visits_25 : decode cX11_visits 25 = .ok (.invokevirtual 292, 3) := by decide +kernel
theorem dX11_visits_28 : decode cX11_visits 28 = .ok (.aload_n 0, 1) := by decide +kernel
theorem dX11_visits_29 : decode cX11_visits 29 = .ok (.getfield 83, 3) := by decide +kernel
theorem dX11_visits_32 : decode cX11_visits 32 = .ok (.invokevirtual 296, 3) := by decide +kernel
theorem dX11_visits_35 : decode cX11_visits 35 = .ok (.ireturn, 1) := by decide +kernel
theorem dX11_visit_0 : decode cX11_visit 0 = .ok (.aload_n 0, 1) := by decide +kernel
theorem dX11_visit_1 : decode cX11_visit 1 = .ok (.iload_n 1, 1) := by decide +kernel
theorem dX11_visit_2 : decode cX11_visit 2 = .ok (.invokevirtual 166, 3) := by decide +kernel
theorem dX11_visit_5 : decode cX11_visit 5 = .ok (.iload_n 2, 1) := by decide +kernel
theorem dX11_visit_6 : decode cX11_visit 6 = .ok (.invokestatic 213, 3) := by decide +kernel
theorem dX11_visit_9 : decode cX11_visit 9 = .ok (.aload_n 0, 1) := by decide +kernel
theorem dX11_visit_10 : decode cX11_visit 10 = .ok (.invokevirtual 203, 3) := by decide +kernel
theorem dX11_visit_13 : decode cX11_visit 13 = .ok (.aload_n 0, 1) := by decide +kernel
theorem dX11_visit_14 : decode cX11_visit 14 = .ok (.getfield 83, 3) := by decide +kernel
theorem dX11_visit_17 : decode cX11_visit 17 = .ok (.aload_n 0, 1) := by decide +kernel
theorem dX11_visit_18 : decode cX11_visit 18 = .ok (.getfield 26, 3) := by decide +kernel
theorem dX11_visit_21 : decode cX11_visit 21 = .ok (.aload_n 0, 1) := by decide +kernel
theorem dX11_visit_22 : decode cX11_visit 22 = .ok (.getfield 33, 3) := by decide +kernel
theorem dX11_visit_25 : decode cX11_visit 25 = .ok (.aload_n 0, 1) := by decide +kernel
theorem dX11_visit_26 : decode cX11_visit 26 = .ok (.getfield 64, 3) := by decide +kernel
theorem dX11_visit_29 : decode cX11_visit 29 = .ok (.iload_n 2, 1) := by decide +kernel
theorem dX11_visit_30 : decode cX11_visit 30 = .ok (.invokevirtual 292, 3) := by decide +kernel
theorem dX11_visit_33 : decode cX11_visit 33 = .ok (.aload_n 0, 1) := by decide +kernel
theorem dX11_visit_34 : decode cX11_visit 34 = .ok (.getfield 83, 3) := by decide +kernel
theorem dX11_visit_37 : decode cX11_visit 37 = .ok (.iload_n 1, 1) := by decide +kernel
theorem dX11_visit_38 : decode cX11_visit 38 = .ok (.invokevirtual 299, 3) := by decide +kernel
theorem dX11_visit_41 : decode cX11_visit 41 = .ok (.ireturn, 1) := by decide +kernel
theorem dX11_compared_0 : decode cX11_compared 0 = .ok (.aload_n 0, 1) := by decide +kernel
theorem dX11_compared_1 : decode cX11_compared 1 = .ok (.iload_n 1, 1) := by decide +kernel
theorem dX11_compared_2 : decode cX11_compared 2 = .ok (.invokevirtual 302, 3) := by decide +kernel
theorem dX11_compared_5 : decode cX11_compared 5 = .ok (.aload_n 0, 1) := by decide +kernel
theorem dX11_compared_6 : decode cX11_compared 6 = .ok (.invokevirtual 203, 3) := by decide +kernel
theorem dX11_compared_9 : decode cX11_compared 9 = .ok (.aload_n 0, 1) := by decide +kernel
theorem dX11_compared_10 : decode cX11_compared 10 = .ok (.iload_n 1, 1) := by decide +kernel
theorem dX11_compared_11 : decode cX11_compared 11 = .ok (.invokevirtual 305, 3) := by decide +kernel
theorem dX11_compared_14 : decode cX11_compared 14 = .ok (.ireturn, 1) := by decide +kernel
theorem dX11_best_0 : decode cX11_best 0 = .ok (.aload_n 0, 1) := by decide +kernel
theorem dX11_best_1 : decode cX11_best 1 = .ok (.invokevirtual 203, 3) := by decide +kernel
theorem dX11_best_4 : decode cX11_best 4 = .ok (.iconst (-1), 1) := by decide +kernel
theorem dX11_best_5 : decode cX11_best 5 = .ok (.istore_n 1, 1) := by decide +kernel
theorem dX11_best_6 : decode cX11_best 6 = .ok (.aload_n 0, 1) := by decide +kernel
theorem dX11_best_7 : decode cX11_best 7 = .ok (.iconst (-1), 1) := by decide +kernel
theorem dX11_best_8 : decode cX11_best 8 = .ok (.invokevirtual 305, 3) := by decide +kernel
theorem dX11_best_11 : decode cX11_best 11 = .ok (.istore_n 2, 1) := by decide +kernel
theorem dX11_best_12 : decode cX11_best 12 = .ok (.iconst 0, 1) := by decide +kernel
theorem dX11_best_13 : decode cX11_best 13 = .ok (.istore_n 3, 1) := by decide +kernel
theorem dX11_best_14 : decode cX11_best 14 = .ok (.iload_n 3, 1) := by decide +kernel
theorem dX11_best_15 : decode cX11_best 15 = .ok (.aload_n 0, 1) := by decide +kernel
theorem dX11_best_16 : decode cX11_best 16 = .ok (.getfield 26, 3) := by decide +kernel
theorem dX11_best_19 : decode cX11_best 19 = .ok (.getfield 133, 3) := by decide +kernel
theorem dX11_best_22 : decode cX11_best 22 = .ok (.getfield 137, 3) := by decide +kernel
theorem dX11_best_25 : decode cX11_best 25 = .ok (.if_icmp .ge 27, 3) := by decide +kernel
theorem dX11_best_28 : decode cX11_best 28 = .ok (.aload_n 0, 1) := by decide +kernel
theorem dX11_best_29 : decode cX11_best 29 = .ok (.iload_n 3, 1) := by decide +kernel
theorem dX11_best_30 : decode cX11_best 30 = .ok (.invokevirtual 305, 3) := by decide +kernel
theorem dX11_best_33 : decode cX11_best 33 = .ok (.istore 4, 2) := by decide +kernel
theorem dX11_best_35 : decode cX11_best 35 = .ok (.iload 4, 2) := by decide +kernel
theorem dX11_best_37 : decode cX11_best 37 = .ok (.iload_n 2, 1) := by decide +kernel
theorem dX11_best_38 : decode cX11_best 38 = .ok (.if_icmp .le 8, 3) := by decide +kernel
theorem dX11_best_41 : decode cX11_best 41 = .ok (.iload 4, 2) := by decide +kernel
theorem dX11_best_43 : decode cX11_best 43 = .ok (.istore_n 2, 1) := by decide +kernel
theorem dX11_best_44 : decode cX11_best 44 = .ok (.iload_n 3, 1) := by decide +kernel
theorem dX11_best_45 : decode cX11_best 45 = .ok (.istore_n 1, 1) := by decide +kernel
theorem dX11_best_46 : decode cX11_best 46 = .ok (.iinc 3 1, 3) := by decide +kernel
theorem dX11_best_49 : decode cX11_best 49 = .ok (.goto (-35), 3) := by decide +kernel
theorem dX11_best_52 : decode cX11_best 52 = .ok (.iload_n 1, 1) := by decide +kernel
theorem dX11_best_53 : decode cX11_best 53 = .ok (.ireturn, 1) := by decide +kernel
theorem dX11_mooring_0 : decode cX11_mooring 0 = .ok (.aload_n 0, 1) := by decide +kernel
theorem dX11_mooring_1 : decode cX11_mooring 1 = .ok (.iload_n 1, 1) := by decide +kernel
theorem dX11_mooring_2 : decode cX11_mooring 2 = .ok (.invokevirtual 190, 3) := by decide +kernel
theorem dX11_mooring_5 : decode cX11_mooring 5 = .ok (.iload_n 2, 1) := by decide +kernel
theorem dX11_mooring_6 : decode cX11_mooring 6 = .ok (.invokestatic 230, 3) := by decide +kernel
theorem dX11_mooring_9 : decode cX11_mooring 9 = .ok (.iload_n 3, 1) := by decide +kernel
theorem dX11_mooring_10 : decode cX11_mooring 10 = .ok (.iconst 2, 1) := by decide +kernel
theorem dX11_mooring_11 : decode cX11_mooring 11 = .ok (.invokestatic 193, 3) := by decide +kernel
theorem dX11_mooring_14 : decode cX11_mooring 14 = .ok (.aload_n 0, 1) := by decide +kernel
theorem dX11_mooring_15 : decode cX11_mooring 15 = .ok (.invokevirtual 203, 3) := by decide +kernel
theorem dX11_mooring_18 : decode cX11_mooring 18 = .ok (.iconst (-1), 1) := by decide +kernel
theorem dX11_mooring_19 : decode cX11_mooring 19 = .ok (.istore 4, 2) := by decide +kernel
theorem dX11_mooring_21 : decode cX11_mooring 21 = .ok (.iconst (-1), 1) := by decide +kernel
theorem dX11_mooring_22 : decode cX11_mooring 22 = .ok (.istore 5, 2) := by decide +kernel
theorem dX11_mooring_24 : decode cX11_mooring 24 = .ok (.aload_n 0, 1) := by decide +kernel
theorem dX11_mooring_25 : decode cX11_mooring 25 = .ok (.getfield 26, 3) := by decide +kernel
theorem dX11_mooring_28 : decode cX11_mooring 28 = .ok (.invokevirtual 308, 3) := by decide +kernel
theorem dX11_mooring_31 : decode cX11_mooring 31 = .ok (.istore 6, 2) := by decide +kernel
theorem dX11_mooring_33 : decode cX11_mooring 33 = .ok (.iconst 0, 1) := by decide +kernel
theorem dX11_mooring_34 : decode cX11_mooring 34 = .ok (.istore 7, 2) := by decide +kernel
theorem dX11_mooring_36 : decode cX11_mooring 36 = .ok (.iload 7, 2) := by decide +kernel
theorem dX11_mooring_38 : decode cX11_mooring 38 = .ok (.iload 6, 2) := by decide +kernel
theorem dX11_mooring_40 : decode cX11_mooring 40 = .ok (.if_icmp .ge 43, 3) := by decide +kernel
theorem dX11_mooring_43 : decode cX11_mooring 43 = .ok (.aload_n 0, 1) := by decide +kernel
theorem dX11_mooring_44 : decode cX11_mooring 44 = .ok (.iload_n 1, 1) := by decide +kernel
theorem dX11_mooring_45 : decode cX11_mooring 45 = .ok (.iload 7, 2) := by decide +kernel
theorem dX11_mooring_47 : decode cX11_mooring 47 = .ok (.invokevirtual 254, 3) := by decide +kernel
theorem dX11_mooring_50 : decode cX11_mooring 50 = .ok (.ifCond .eq 27, 3) := by decide +kernel
theorem dX11_mooring_53 : decode cX11_mooring 53 = .ok (.aload_n 0, 1) := by decide +kernel
theorem dX11_mooring_54 : decode cX11_mooring 54 = .ok (.iload 7, 2) := by decide +kernel
theorem dX11_mooring_56 : decode cX11_mooring 56 = .ok (.iload_n 2, 1) := by decide +kernel
theorem dX11_mooring_57 : decode cX11_mooring 57 = .ok (.invokevirtual 311, 3) := by decide +kernel
theorem dX11_mooring_60 : decode cX11_mooring 60 = .ok (.istore 8, 2) := by decide +kernel
theorem dX11_mooring_62 : decode cX11_mooring 62 = .ok (.iload 8, 2) := by decide +kernel
theorem dX11_mooring_64 : decode cX11_mooring 64 = .ok (.iload 5, 2) := by decide +kernel
theorem dX11_mooring_66 : decode cX11_mooring 66 = .ok (.if_icmp .le 11, 3) := by decide +kernel
theorem dX11_mooring_69 : decode cX11_mooring 69 = .ok (.iload 8, 2) := by decide +kernel
theorem dX11_mooring_71 : decode cX11_mooring 71 = .ok (.istore 5, 2) := by decide +kernel
theorem dX11_mooring_73 : decode cX11_mooring 73 = .ok (.iload 7, 2) := by decide +kernel
theorem dX11_mooring_75 : decode cX11_mooring 75 = .ok (.istore 4, 2) := by decide +kernel
theorem dX11_mooring_77 : decode cX11_mooring 77 = .ok (.iinc 7 1, 3) := by decide +kernel
theorem dX11_mooring_80 : decode cX11_mooring 80 = .ok (.goto (-44), 3) := by decide +kernel
theorem dX11_mooring_83 : decode cX11_mooring 83 = .ok (.iload_n 3, 1) := by decide +kernel
theorem dX11_mooring_84 : decode cX11_mooring 84 = .ok (.ifCond .ne 8, 3) := by decide +kernel
theorem dX11_mooring_87 : decode cX11_mooring 87 = .ok (.iload 4, 2) := by decide +kernel
theorem dX11_mooring_89 : decode cX11_mooring 89 = .ok (.goto 5, 3) := by decide +kernel
theorem dX11_mooring_92 : decode cX11_mooring 92 = .ok (.iload 5, 2) := by decide +kernel
theorem dX11_mooring_94 : decode cX11_mooring 94 = .ok (.ireturn, 1) := by decide +kernel
theorem dX11_log_0 : decode cX11_log 0 = .ok (.aload_n 0, 1) := by decide +kernel
theorem dX11_log_1 : decode cX11_log 1 = .ok (.iload_n 1, 1) := by decide +kernel
theorem dX11_log_2 : decode cX11_log 2 = .ok (.invokevirtual 190, 3) := by decide +kernel
theorem dX11_log_5 : decode cX11_log 5 = .ok (.iload_n 2, 1) := by decide +kernel
theorem dX11_log_6 : decode cX11_log 6 = .ok (.invokestatic 213, 3) := by decide +kernel
theorem dX11_log_9 : decode cX11_log 9 = .ok (.aload_n 0, 1) := by decide +kernel
theorem dX11_log_10 : decode cX11_log 10 = .ok (.iload_n 3, 1) := by decide +kernel
theorem dX11_log_11 : decode cX11_log 11 = .ok (.invokevirtual 166, 3) := by decide +kernel
theorem dX11_log_14 : decode cX11_log 14 = .ok (.aload_n 0, 1) := by decide +kernel
theorem dX11_log_15 : decode cX11_log 15 = .ok (.getfield 33, 3) := by decide +kernel
theorem dX11_log_18 : decode cX11_log 18 = .ok (.getfield 154, 3) := by decide +kernel
theorem dX11_log_21 : decode cX11_log 21 = .ok (.getfield 158, 3) := by decide +kernel
theorem dX11_log_24 : decode cX11_log 24 = .ok (.bipush 8, 2) := by decide +kernel
theorem dX11_log_26 : decode cX11_log 26 = .ok (.if_icmp .lt 15, 3) := by decide +kernel
theorem dX11_log_29 : decode cX11_log 29 = .ok (.aload_n 0, 1) := by decide +kernel
theorem dX11_log_30 : decode cX11_log 30 = .ok (.getfield 20, 3) := by decide +kernel
theorem dX11_log_33 : decode cX11_log 33 = .ok (.iconst 2, 1) := by decide +kernel
theorem dX11_log_34 : decode cX11_log 34 = .ok (.dup2, 1) := by decide +kernel
theorem dX11_log_35 : decode cX11_log 35 = .ok (.iaload, 1) := by decide +kernel
theorem dX11_log_36 : decode cX11_log 36 = .ok (.iconst 1, 1) := by decide +kernel
theorem dX11_log_37 : decode cX11_log 37 = .ok (.iadd, 1) := by decide +kernel
theorem dX11_log_38 : decode cX11_log 38 = .ok (.iastore, 1) := by decide +kernel
theorem dX11_log_39 : decode cX11_log 39 = .ok (.iconst (-1), 1) := by decide +kernel
theorem dX11_log_40 : decode cX11_log 40 = .ok (.ireturn, 1) := by decide +kernel
theorem dX11_log_41 : decode cX11_log 41 = .ok (.aload_n 0, 1) := by decide +kernel
theorem dX11_log_42 : decode cX11_log 42 = .ok (.getfield 33, 3) := by decide +kernel
theorem dX11_log_45 : decode cX11_log 45 = .ok (.getfield 154, 3) := by decide +kernel
theorem dX11_log_48 : decode cX11_log 48 = .ok (.iload_n 1, 1) := by decide +kernel
theorem dX11_log_49 : decode cX11_log 49 = .ok (.iload_n 2, 1) := by decide +kernel
theorem dX11_log_50 : decode cX11_log 50 = .ok (.iload_n 3, 1) := by decide +kernel
theorem dX11_log_51 : decode cX11_log 51 = .ok (.iload 4, 2) := by decide +kernel
theorem dX11_log_53 : decode cX11_log 53 = .ok (.invokevirtual 314, 3) := by decide +kernel
theorem dX11_log_56 : decode cX11_log 56 = .ok (.aload_n 0, 1) := by decide +kernel
theorem dX11_log_57 : decode cX11_log 57 = .ok (.getfield 33, 3) := by decide +kernel
theorem dX11_log_60 : decode cX11_log 60 = .ok (.getfield 154, 3) := by decide +kernel
theorem dX11_log_63 : decode cX11_log 63 = .ok (.getfield 158, 3) := by decide +kernel
theorem dX11_log_66 : decode cX11_log 66 = .ok (.ireturn, 1) := by decide +kernel
theorem dX11_forget_0 : decode cX11_forget 0 = .ok (.aload_n 0, 1) := by decide +kernel
theorem dX11_forget_1 : decode cX11_forget 1 = .ok (.getfield 33, 3) := by decide +kernel
theorem dX11_forget_4 : decode cX11_forget 4 = .ok (.getfield 154, 3) := by decide +kernel
theorem dX11_forget_7 : decode cX11_forget 7 = .ok (.iconst 0, 1) := by decide +kernel
theorem dX11_forget_8 : decode cX11_forget 8 = .ok (.putfield 158, 3) := by decide +kernel
theorem dX11_forget_11 : decode cX11_forget 11 = .ok (.return_, 1) := by decide +kernel
theorem dX11_falsely_0 : decode cX11_falsely 0 = .ok (.aload_n 0, 1) := by decide +kernel
theorem dX11_falsely_1 : decode cX11_falsely 1 = .ok (.invokevirtual 203, 3) := by decide +kernel
theorem dX11_falsely_4 : decode cX11_falsely 4 = .ok (.aload_n 0, 1) := by decide +kernel
theorem dX11_falsely_5 : decode cX11_falsely 5 = .ok (.getfield 33, 3) := by decide +kernel
theorem dX11_falsely_8 : decode cX11_falsely 8 = .ok (.getfield 154, 3) := by decide +kernel
theorem dX11_falsely_11 : decode cX11_falsely 11 = .ok (.aload_n 0, 1) := by decide +kernel
theorem dX11_falsely_12 : decode cX11_falsely 12 = .ok (.getfield 64, 3) := by decide +kernel
theorem dX11_falsely_15 : decode cX11_falsely 15 = .ok (.invokevirtual 318, 3) := by decide +kernel
theorem dX11_falsely_18 : decode cX11_falsely 18 = .ok (.ireturn, 1) := by decide +kernel
theorem dX11_begun_0 : decode cX11_begun 0 = .ok (.aload_n 0, 1) := by decide +kernel
theorem dX11_begun_1 : decode cX11_begun 1 = .ok (.iload_n 1, 1) := by decide +kernel
theorem dX11_begun_2 : decode cX11_begun 2 = .ok (.invokevirtual 166, 3) := by decide +kernel
theorem dX11_begun_5 : decode cX11_begun 5 = .ok (.iload_n 2, 1) := by decide +kernel
theorem dX11_begun_6 : decode cX11_begun 6 = .ok (.iconst 3, 1) := by decide +kernel
theorem dX11_begun_7 : decode cX11_begun 7 = .ok (.invokestatic 193, 3) := by decide +kernel
theorem dX11_begun_10 : decode cX11_begun 10 = .ok (.aload_n 0, 1) := by decide +kernel
theorem dX11_begun_11 : decode cX11_begun 11 = .ok (.invokevirtual 203, 3) := by decide +kernel
theorem dX11_begun_14 : decode cX11_begun 14 = .ok (.aload_n 0, 1) := by decide +kernel
theorem dX11_begun_15 : decode cX11_begun 15 = .ok (.getfield 71, 3) := by decide +kernel
theorem dX11_begun_18 : decode cX11_begun 18 = .ok (.aload_n 0, 1) := by decide +kernel
theorem dX11_begun_19 : decode cX11_begun 19 = .ok (.getfield 33, 3) := by decide +kernel
theorem dX11_begun_22 : decode cX11_begun 22 = .ok (.invokevirtual 322, 3) := by decide +kernel
theorem dX11_begun_25 : decode cX11_begun 25 = .ok (.iconst 0, 1) := by decide +kernel
theorem dX11_begun_26 : decode cX11_begun 26 = .ok (.istore_n 3, 1) := by decide +kernel
theorem dX11_begun_27 : decode cX11_begun 27 = .ok (.iconst (-1), 1) := by decide +kernel
theorem dX11_begun_28 : decode cX11_begun 28 = .ok (.istore 4, 2) := by decide +kernel
theorem dX11_begun_30 : decode cX11_begun 30 = .ok (.bipush 8, 2) := by decide +kernel
theorem dX11_begun_32 : decode cX11_begun 32 = .ok (.istore 5, 2) := by decide +kernel
theorem dX11_begun_34 : decode cX11_begun 34 = .ok (.aload_n 0, 1) := by decide +kernel
theorem dX11_begun_35 : decode cX11_begun 35 = .ok (.getfield 26, 3) := by decide +kernel
theorem dX11_begun_38 : decode cX11_begun 38 = .ok (.invokevirtual 308, 3) := by decide +kernel
theorem dX11_begun_41 : decode cX11_begun 41 = .ok (.istore 6, 2) := by decide +kernel
theorem dX11_begun_43 : decode cX11_begun 43 = .ok (.iconst 0, 1) := by decide +kernel
theorem dX11_begun_44 : decode cX11_begun 44 = .ok (.istore 7, 2) := by decide +kernel
theorem dX11_begun_46 : decode cX11_begun 46 = .ok (.iload 7, 2) := by decide +kernel
theorem dX11_begun_48 : decode cX11_begun 48 = .ok (.iload 6, 2) := by decide +kernel
theorem dX11_begun_50 : decode cX11_begun 50 = .ok (.if_icmp .ge 78, 3) := by decide +kernel
theorem dX11_begun_53 : decode cX11_begun 53 = .ok (.aload_n 0, 1) := by decide +kernel
theorem dX11_begun_54 : decode cX11_begun 54 = .ok (.aload_n 0, 1) := by decide +kernel
theorem dX11_begun_55 : decode cX11_begun 55 = .ok (.getfield 33, 3) := by decide +kernel
theorem dX11_begun_58 : decode cX11_begun 58 = .ok (.iload_n 1, 1) := by decide +kernel
theorem dX11_begun_59 : decode cX11_begun 59 = .ok (.iload 7, 2) := by decide +kernel
theorem dX11_begun_61 : decode cX11_begun 61 = .ok (.invokevirtual 257, 3) := by decide +kernel
theorem dX11_begun_64 : decode cX11_begun 64 = .ok (.ifCond .eq 58, 3) := by decide +kernel
theorem dX11_begun_67 : decode cX11_begun 67 = .ok (.aload_n 0, 1) := by decide +kernel
theorem dX11_begun_68 : decode cX11_begun 68 = .ok (.iload_n 1, 1) := by decide +kernel
theorem dX11_begun_69 : decode cX11_begun 69 = .ok (.iload 7, 2) := by decide +kernel
theorem dX11_begun_71 : decode cX11_begun 71 = .ok (.invokevirtual 326, 3) := by decide +kernel
theorem dX11_begun_74 : decode cX11_begun 74 = .ok (.aload_n 0, 1) := by decide +kernel
theorem dX11_begun_75 : decode cX11_begun 75 = .ok (.getfield 33, 3) := by decide +kernel
theorem dX11_begun_78 : decode cX11_begun 78 = .ok (.getfield 154, 3) := by decide +kernel
theorem dX11_begun_81 : decode cX11_begun 81 = .ok (.aload_n 0, 1) := by decide +kernel
theorem dX11_begun_82 : decode cX11_begun 82 = .ok (.getfield 77, 3) := by decide +kernel
theorem dX11_begun_85 : decode cX11_begun 85 = .ok (.invokevirtual 318, 3) := by decide +kernel
theorem dX11_begun_88 : decode cX11_begun 88 = .ok (.istore 8, 2) := by decide +kernel
theorem dX11_begun_90 : decode cX11_begun 90 = .ok (.iload 5, 2) := by decide +kernel
theorem dX11_begun_92 : decode cX11_begun 92 = .ok (.iload 8, 2) := by decide +kernel
theorem dX11_begun_94 : decode cX11_begun 94 = .ok (.invokestatic 329, 3) := by decide +kernel
theorem dX11_begun_97 : decode cX11_begun 97 = .ok (.istore 5, 2) := by decide +kernel
theorem dX11_begun_99 : decode cX11_begun 99 = .ok (.iload 8, 2) := by decide +kernel
theorem dX11_begun_101 : decode cX11_begun 101 = .ok (.ifCond .ne 21, 3) := by decide +kernel
theorem dX11_begun_104 : decode cX11_begun 104 = .ok (.iinc 3 1, 3) := by decide +kernel
theorem dX11_begun_107 : decode cX11_begun 107 = .ok (.iload 4, 2) := by decide +kernel
theorem dX11_begun_109 : decode cX11_begun 109 = .ok (.iconst (-1), 1) := by decide +kernel
theorem dX11_begun_110 : decode cX11_begun 110 = .ok (.if_icmp .ne 8, 3) := by decide +kernel
theorem dX11_begun_113 : decode cX11_begun 113 = .ok (.iload 7, 2) := by decide +kernel
theorem dX11_begun_115 : decode cX11_begun 115 = .ok (.goto 5, 3) := by decide +kernel
theorem dX11_begun_118 : decode cX11_begun 118 = .ok (.iload 4, 2) := by decide +kernel
theorem dX11_begun_120 : decode cX11_begun 120 = .ok (.istore 4, 2) := by decide +kernel
theorem dX11_begun_122 : decode cX11_begun 122 = .ok (.iinc 7 1, 3) := by decide +kernel
theorem dX11_begun_125 : decode cX11_begun 125 = .ok (.goto (-79), 3) := by decide +kernel
theorem dX11_begun_128 : decode cX11_begun 128 = .ok (.iload_n 2, 1) := by decide +kernel
theorem dX11_begun_129 : decode cX11_begun 129 = .ok (.ifCond .ne 5, 3) := by decide +kernel
theorem dX11_begun_132 : decode cX11_begun 132 = .ok (.iload_n 3, 1) := by decide +kernel
theorem dX11_begun_133 : decode cX11_begun 133 = .ok (.ireturn, 1) := by decide +kernel
theorem dX11_begun_134 : decode cX11_begun 134 = .ok (.iload_n 2, 1) := by decide +kernel
theorem dX11_begun_135 : decode cX11_begun 135 = .ok (.iconst 1, 1) := by decide +kernel
theorem dX11_begun_136 : decode cX11_begun 136 = .ok (.if_icmp .ne 8, 3) := by decide +kernel
theorem dX11_begun_139 : decode cX11_begun 139 = .ok (.iload 4, 2) := by decide +kernel
theorem dX11_begun_141 : decode cX11_begun 141 = .ok (.goto 5, 3) := by decide +kernel
theorem dX11_begun_144 : decode cX11_begun 144 = .ok (.iload 5, 2) := by decide +kernel
theorem dX11_begun_146 : decode cX11_begun 146 = .ok (.ireturn, 1) := by decide +kernel
theorem dX11_game_0 : decode cX11_game 0 = .ok (.aload_n 0, 1) := by decide +kernel
theorem dX11_game_1 : decode cX11_game 1 = .ok (.iload_n 1, 1) := by decide +kernel
theorem dX11_game_2 : decode cX11_game 2 = .ok (.invokevirtual 166, 3) := by decide +kernel
theorem dX11_game_5 : decode cX11_game 5 = .ok (.aload_n 0, 1) := by decide +kernel
theorem dX11_game_6 : decode cX11_game 6 = .ok (.iload_n 2, 1) := by decide +kernel
theorem dX11_game_7 : decode cX11_game 7 = .ok (.invokevirtual 166, 3) := by decide +kernel
theorem dX11_game_10 : decode cX11_game 10 = .ok (.iload_n 3, 1) := by decide +kernel
theorem dX11_game_11 : decode cX11_game 11 = .ok (.invokestatic 230, 3) := by decide +kernel
theorem dX11_game_14 : decode cX11_game 14 = .ok (.iload 5, 2) := by decide +kernel
theorem dX11_game_16 : decode cX11_game 16 = .ok (.iconst 2, 1) := by decide +kernel
theorem dX11_game_17 : decode cX11_game 17 = .ok (.invokestatic 193, 3) := by decide +kernel
theorem dX11_game_20 : decode cX11_game 20 = .ok (.iload_n 1, 1) := by decide +kernel
theorem dX11_game_21 : decode cX11_game 21 = .ok (.iload_n 2, 1) := by decide +kernel
theorem dX11_game_22 : decode cX11_game 22 = .ok (.invokestatic 241, 3) := by decide +kernel
theorem dX11_game_25 : decode cX11_game 25 = .ok (.iload 4, 2) := by decide +kernel
theorem dX11_game_27 : decode cX11_game 27 = .ok (.ifCond .lt 10, 3) := by decide +kernel
theorem dX11_game_30 : decode cX11_game 30 = .ok (.iload 4, 2) := by decide +kernel
theorem dX11_game_32 : decode cX11_game 32 = .ok (.bipush 99, 2) := by decide +kernel
theorem dX11_game_34 : decode cX11_game 34 = .ok (.if_icmp .le 14, 3) := by decide +kernel
theorem dX11_game_37 : decode cX11_game 37 = .ok (.new 101, 3) := by decide +kernel
theorem dX11_game_40 : decode cX11_game 40 = .ok (.dup, 1) := by decide +kernel
theorem dX11_game_41 : decode cX11_game 41 = .ok (.ldc_w 334, 3) := by decide +kernel
theorem dX11_game_44 : decode cX11_game 44 = .ok (.invokespecial 105, 3) := by decide +kernel
theorem dX11_game_47 : decode cX11_game 47 = .ok (.athrow, 1) := by decide +kernel
theorem dX11_game_48 : decode cX11_game 48 = .ok (.aload_n 0, 1) := by decide +kernel
theorem dX11_game_49 : decode cX11_game 49 = .ok (.invokevirtual 203, 3) := by decide +kernel
theorem dX11_game_52 : decode cX11_game 52 = .ok (.iconst 0, 1) := by decide +kernel
theorem dX11_game_53 : decode cX11_game 53 = .ok (.istore 6, 2) := by decide +kernel
theorem dX11_game_55 : decode cX11_game 55 = .ok (.iconst (-1), 1) := by decide +kernel
theorem dX11_game_56 : decode cX11_game 56 = .ok (.istore 7, 2) := by decide +kernel
theorem dX11_game_58 : decode cX11_game 58 = .ok (.iconst 0, 1) := by decide +kernel
theorem dX11_game_59 : decode cX11_game 59 = .ok (.istore 8, 2) := by decide +kernel
theorem dX11_game_61 : decode cX11_game 61 = .ok (.iload 8, 2) := by decide +kernel
theorem dX11_game_63 : decode cX11_game 63 = .ok (.iconst 4, 1) := by decide +kernel
theorem dX11_game_64 : decode cX11_game 64 = .ok (.if_icmp .ge 102, 3) := by decide +kernel
theorem dX11_game_67 : decode cX11_game 67 = .ok (.iload 8, 2) := by decide +kernel
theorem dX11_game_69 : decode cX11_game 69 = .ok (.iconst 2, 1) := by decide +kernel
theorem dX11_game_70 : decode cX11_game 70 = .ok (.if_icmp .lt 7, 3) := by decide +kernel
theorem dX11_game_73 : decode cX11_game 73 = .ok (.iconst 1, 1) := by decide +kernel
theorem dX11_game_74 : decode cX11_game 74 = .ok (.goto 4, 3) := by decide +kernel
theorem dX11_game_77 : decode cX11_game 77 = .ok (.iconst 0, 1) := by decide +kernel
theorem dX11_game_78 : decode cX11_game 78 = .ok (.istore 9, 2) := by decide +kernel
theorem dX11_game_80 : decode cX11_game 80 = .ok (.iload 8, 2) := by decide +kernel
theorem dX11_game_82 : decode cX11_game 82 = .ok (.iconst 1, 1) := by decide +kernel
theorem dX11_game_83 : decode cX11_game 83 = .ok (.iand, 1) := by decide +kernel
theorem dX11_game_84 : decode cX11_game 84 = .ok (.iconst 1, 1) := by decide +kernel
theorem dX11_game_85 : decode cX11_game 85 = .ok (.if_icmp .ne 7, 3) := by decide +kernel
theorem dX11_game_88 : decode cX11_game 88 = .ok (.iconst 1, 1) := by decide +kernel
theorem dX11_game_89 : decode cX11_game 89 = .ok (.goto 4, 3) := by decide +kernel
theorem dX11_game_92 : decode cX11_game 92 = .ok (.iconst 0, 1) := by decide +kernel
theorem dX11_game_93 : decode cX11_game 93 = .ok (.istore 10, 2) := by decide +kernel
theorem dX11_game_95 : decode cX11_game 95 = .ok (.aload_n 0, 1) := by decide +kernel
theorem dX11_game_96 : decode cX11_game 96 = .ok (.iload_n 1, 1) := by decide +kernel
theorem dX11_game_97 : decode cX11_game 97 = .ok (.iload 9, 2) := by decide +kernel
theorem dX11_game_99 : decode cX11_game 99 = .ok (.iload_n 2, 1) := by decide +kernel
theorem dX11_game_100 : decode cX11_game 100 = .ok (.iload 10, 2) := by decide +kernel
theorem dX11_game_102 : decode cX11_game 102 = .ok (.iload_n 3, 1) := by decide +kernel
theorem dX11_game_103 : decode cX11_game 103 = .ok (.iload 4, 2) := by decide +kernel
theorem dX11_game_105 : decode cX11_game 105 = .ok (.invokevirtual 336, 3) := by decide +kernel
theorem dX11_game_108 : decode cX11_game 108 = .ok (.ifCond .eq 52, 3) := by decide +kernel
theorem dX11_game_111 : decode cX11_game 111 = .ok (.aload_n 0, 1) := by decide +kernel
theorem dX11_game_112 : decode cX11_game 112 = .ok (.iload_n 2, 1) := by decide +kernel
theorem dX11_game_113 : decode cX11_game 113 = .ok (.iload 10, 2) := by decide +kernel
theorem dX11_game_115 : decode cX11_game 115 = .ok (.iload_n 1, 1) := by decide +kernel
theorem dX11_game_116 : decode cX11_game 116 = .ok (.iload 9, 2) := by decide +kernel
theorem dX11_game_118 : decode cX11_game 118 = .ok (.iload_n 3, 1) := by decide +kernel
theorem dX11_game_119 : decode cX11_game 119 = .ok (.iload 4, 2) := by decide +kernel
theorem dX11_game_121 : decode cX11_game 121 = .ok (.invokevirtual 336, 3) := by decide +kernel
theorem dX11_game_124 : decode cX11_game 124 = .ok (.ifCond .eq 36, 3) := by decide +kernel
theorem dX11_game_127 : decode cX11_game 127 = .ok (.iinc 6 1, 3) := by decide +kernel
theorem dX11_game_130 : decode cX11_game 130 = .ok (.iload 7, 2) := by decide +kernel
theorem dX11_game_132 : decode cX11_game 132 = .ok (.iconst (-1), 1) := by decide +kernel
theorem dX11_game_133 : decode cX11_game 133 = .ok (.if_icmp .ne 27, 3) := by decide +kernel
theorem dX11_game_136 : decode cX11_game 136 = .ok (.iload 9, 2) := by decide +kernel
theorem dX11_game_138 : decode cX11_game 138 = .ok (.ifCond .eq 8, 3) := by decide +kernel
theorem dX11_game_141 : decode cX11_game 141 = .ok (.bipush 10, 2) := by decide +kernel
theorem dX11_game_143 : decode cX11_game 143 = .ok (.goto 4, 3) := by decide +kernel
theorem dX11_game_146 : decode cX11_game 146 = .ok (.iconst 0, 1) := by decide +kernel
theorem dX11_game_147 : decode cX11_game 147 = .ok (.iload 10, 2) := by decide +kernel
theorem dX11_game_149 : decode cX11_game 149 = .ok (.ifCond .eq 7, 3) := by decide +kernel
theorem dX11_game_152 : decode cX11_game 152 = .ok (.iconst 1, 1) := by decide +kernel
theorem dX11_game_153 : decode cX11_game 153 = .ok (.goto 4, 3) := by decide +kernel
theorem dX11_game_156 : decode cX11_game 156 = .ok (.iconst 0, 1) := by decide +kernel
theorem dX11_game_157 : decode cX11_game 157 = .ok (.iadd, 1) := by decide +kernel
theorem dX11_game_158 : decode cX11_game 158 = .ok (.istore 7, 2) := by decide +kernel
theorem dX11_game_160 : decode cX11_game 160 = .ok (.iinc 8 1, 3) := by decide +kernel
theorem dX11_game_163 : decode cX11_game 163 = .ok (.goto (-102), 3) := by decide +kernel
theorem dX11_game_166 : decode cX11_game 166 = .ok (.iload 5, 2) := by decide +kernel
theorem dX11_game_168 : decode cX11_game 168 = .ok (.ifCond .ne 8, 3) := by decide +kernel
theorem dX11_game_171 : decode cX11_game 171 = .ok (.iload 6, 2) := by decide +kernel
theorem dX11_game_173 : decode cX11_game 173 = .ok (.goto 5, 3) := by decide +kernel
theorem dX11_game_176 : decode cX11_game 176 = .ok (.iload 7, 2) := by decide +kernel
theorem dX11_game_178 : decode cX11_game 178 = .ok (.ireturn, 1) := by decide +kernel
theorem dX11_years_0 : decode cX11_years 0 = .ok (.iload_n 3, 1) := by decide +kernel
theorem dX11_years_1 : decode cX11_years 1 = .ok (.iconst 3, 1) := by decide +kernel
theorem dX11_years_2 : decode cX11_years 2 = .ok (.invokestatic 193, 3) := by decide +kernel
theorem dX11_years_5 : decode cX11_years 5 = .ok (.iload_n 2, 1) := by decide +kernel
theorem dX11_years_6 : decode cX11_years 6 = .ok (.ifCond .lt 9, 3) := by decide +kernel
theorem dX11_years_9 : decode cX11_years 9 = .ok (.iload_n 2, 1) := by decide +kernel
theorem dX11_years_10 : decode cX11_years 10 = .ok (.bipush 40, 2) := by decide +kernel
theorem dX11_years_12 : decode cX11_years 12 = .ok (.if_icmp .le 14, 3) := by decide +kernel
theorem dX11_years_15 : decode cX11_years 15 = .ok (.new 101, 3) := by decide +kernel
theorem dX11_years_18 : decode cX11_years 18 = .ok (.dup, 1) := by decide +kernel
theorem dX11_years_19 : decode cX11_years 19 = .ok (.ldc_w 340, 3) := by decide +kernel
