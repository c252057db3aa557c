theorem dX11_remainder_0 : decode cX11_remainder 0 = .ok (.iload_n 1, 1) := by decide +kernel
theorem dX11_remainder_1 : decode cX11_remainder 1 = .ok (.ifCond .ne 7, 3) := by decide +kernel
theorem dX11_remainder_4 : decode cX11_remainder 4 = .ok (.iconst 0, 1) := by decide +kernel
theorem dX11_remainder_5 : decode cX11_remainder 5 = .ok (.goto 6, 3) := by decide +kernel
theorem dX11_remainder_8 : decode cX11_remainder 8 = .ok (.iload_n 0, 1) := by decide +kernel
theorem dX11_remainder_9 : decode cX11_remainder 9 = .ok (.iload_n 1, 1) := by decide +kernel
theorem dX11_remainder_10 : decode cX11_remainder 10 = .ok (.irem, 1) := by decide +kernel
theorem dX11_remainder_11 : decode cX11_remainder 11 = .ok (.ireturn, 1) := by decide +kernel
theorem dX11_quotient_0 : decode cX11_quotient 0 = .ok (.iload_n 1, 1) := by decide +kernel
theorem dX11_quotient_1 : decode cX11_quotient 1 = .ok (.ifCond .ne 7, 3) := by decide +kernel
theorem dX11_quotient_4 : decode cX11_quotient 4 = .ok (.iconst 0, 1) := by decide +kernel
theorem dX11_quotient_5 : decode cX11_quotient 5 = .ok (.goto 6, 3) := by decide +kernel
theorem dX11_quotient_8 : decode cX11_quotient 8 = .ok (.iload_n 0, 1) := by decide +kernel
theorem dX11_quotient_9 : decode cX11_quotient 9 = .ok (.iload_n 1, 1) := by decide +kernel
theorem dX11_quotient_10 : decode cX11_quotient 10 = .ok (.idiv, 1) := by decide +kernel
theorem dX11_quotient_11 : decode cX11_quotient 11 = .ok (.ireturn, 1) := by decide +kernel
theorem dX11_oilIn_0 : decode cX11_oilIn 0 = .ok (.bipush 12, 2) := by decide +kernel
theorem dX11_oilIn_2 : decode cX11_oilIn 2 = .ok (.iload_n 1, 1) := by decide +kernel
theorem dX11_oilIn_3 : decode cX11_oilIn 3 = .ok (.bipush 24, 2) := by decide +kernel
theorem dX11_oilIn_5 : decode cX11_oilIn 5 = .ok (.idiv, 1) := by decide +kernel
theorem dX11_oilIn_6 : decode cX11_oilIn 6 = .ok (.imul, 1) := by decide +kernel
theorem dX11_oilIn_7 : decode cX11_oilIn 7 = .ok (.iconst 0, 1) := by decide +kernel
theorem dX11_oilIn_8 : decode cX11_oilIn 8 = .ok (.iload_n 1, 1) := by decide +kernel
theorem dX11_oilIn_9 : decode cX11_oilIn 9 = .ok (.bipush 24, 2) := by decide +kernel
theorem dX11_oilIn_11 : decode cX11_oilIn 11 = .ok (.irem, 1) := by decide +kernel
theorem dX11_oilIn_12 : decode cX11_oilIn 12 = .ok (.bipush 12, 2) := by decide +kernel
theorem dX11_oilIn_14 : decode cX11_oilIn 14 = .ok (.isub, 1) := by decide +kernel
theorem dX11_oilIn_15 : decode cX11_oilIn 15 = .ok (.invokestatic 448, 3) := by decide +kernel
theorem dX11_oilIn_18 : decode cX11_oilIn 18 = .ok (.iadd, 1) := by decide +kernel
theorem dX11_oilIn_19 : decode cX11_oilIn 19 = .ok (.istore_n 2, 1) := by decide +kernel
theorem dX11_oilIn_20 : decode cX11_oilIn 20 = .ok (.iconst 0, 1) := by decide +kernel
theorem dX11_oilIn_21 : decode cX11_oilIn 21 = .ok (.iload_n 0, 1) := by decide +kernel
theorem dX11_oilIn_22 : decode cX11_oilIn 22 = .ok (.iload_n 2, 1) := by decide +kernel
theorem dX11_oilIn_23 : decode cX11_oilIn 23 = .ok (.isub, 1) := by decide +kernel
theorem dX11_oilIn_24 : decode cX11_oilIn 24 = .ok (.invokestatic 448, 3) := by decide +kernel
theorem dX11_oilIn_27 : decode cX11_oilIn 27 = .ok (.ireturn, 1) := by decide +kernel
theorem dX11_isLit_0 : decode cX11_isLit 0 = .ok (.iload_n 1, 1) := by decide +kernel
theorem dX11_isLit_1 : decode cX11_isLit 1 = .ok (.bipush 24, 2) := by decide +kernel
theorem dX11_isLit_3 : decode cX11_isLit 3 = .ok (.irem, 1) := by decide +kernel
theorem dX11_isLit_4 : decode cX11_isLit 4 = .ok (.bipush 12, 2) := by decide +kernel
theorem dX11_isLit_6 : decode cX11_isLit 6 = .ok (.if_icmp .lt 15, 3) := by decide +kernel
theorem dX11_isLit_9 : decode cX11_isLit 9 = .ok (.iload_n 0, 1) := by decide +kernel
theorem dX11_isLit_10 : decode cX11_isLit 10 = .ok (.iload_n 1, 1) := by decide +kernel
theorem dX11_isLit_11 : decode cX11_isLit 11 = .ok (.invokestatic 220, 3) := by decide +kernel
theorem dX11_isLit_14 : decode cX11_isLit 14 = .ok (.ifCond .le 7, 3) := by decide +kernel
theorem dX11_isLit_17 : decode cX11_isLit 17 = .ok (.iconst 1, 1) := by decide +kernel
theorem dX11_isLit_18 : decode cX11_isLit 18 = .ok (.goto 4, 3) := by decide +kernel
theorem dX11_isLit_21 : decode cX11_isLit 21 = .ok (.iconst 0, 1) := by decide +kernel
theorem dX11_isLit_22 : decode cX11_isLit 22 = .ok (.ireturn, 1) := by decide +kernel
theorem dX1_cells_0 : decode cX1_cells 0 = .ok (.aload_n 0, 1) := by decide +kernel
theorem dX1_cells_1 : decode cX1_cells 1 = .ok (.getfield 9, 3) := by decide +kernel
theorem dX1_cells_4 : decode cX1_cells 4 = .ok (.aload_n 0, 1) := by decide +kernel
theorem dX1_cells_5 : decode cX1_cells 5 = .ok (.getfield 15, 3) := by decide +kernel
theorem dX1_cells_8 : decode cX1_cells 8 = .ok (.imul, 1) := by decide +kernel
theorem dX1_cells_9 : decode cX1_cells 9 = .ok (.ireturn, 1) := by decide +kernel
theorem dX1_isOpen_0 : decode cX1_isOpen 0 = .ok (.iload_n 1, 1) := by decide +kernel
theorem dX1_isOpen_1 : decode cX1_isOpen 1 = .ok (.ifCond .lt 24, 3) := by decide +kernel
theorem dX1_isOpen_4 : decode cX1_isOpen 4 = .ok (.iload_n 1, 1) := by decide +kernel
theorem dX1_isOpen_5 : decode cX1_isOpen 5 = .ok (.aload_n 0, 1) := by decide +kernel
theorem dX1_isOpen_6 : decode cX1_isOpen 6 = .ok (.invokevirtual 72, 3) := by decide +kernel
theorem dX1_isOpen_9 : decode cX1_isOpen 9 = .ok (.if_icmp .ge 16, 3) := by decide +kernel
theorem dX1_isOpen_12 : decode cX1_isOpen 12 = .ok (.aload_n 0, 1) := by decide +kernel
theorem dX1_isOpen_13 : decode cX1_isOpen 13 = .ok (.getfield 30, 3) := by decide +kernel
theorem dX1_isOpen_16 : decode cX1_isOpen 16 = .ok (.iload_n 1, 1) := by decide +kernel
theorem dX1_isOpen_17 : decode cX1_isOpen 17 = .ok (.baload, 1) := by decide +kernel
theorem dX1_isOpen_18 : decode cX1_isOpen 18 = .ok (.ifCond .ne 7, 3) := by decide +kernel
theorem dX1_isOpen_21 : decode cX1_isOpen 21 = .ok (.iconst 1, 1) := by decide +kernel
theorem dX1_isOpen_22 : decode cX1_isOpen 22 = .ok (.goto 4, 3) := by decide +kernel
theorem dX1_isOpen_25 : decode cX1_isOpen 25 = .ok (.iconst 0, 1) := by decide +kernel
theorem dX1_isOpen_26 : decode cX1_isOpen 26 = .ok (.ireturn, 1) := by decide +kernel
theorem dX1_columnOf_0 : decode cX1_columnOf 0 = .ok (.iload_n 1, 1) := by decide +kernel
theorem dX1_columnOf_1 : decode cX1_columnOf 1 = .ok (.aload_n 0, 1) := by decide +kernel
theorem dX1_columnOf_2 : decode cX1_columnOf 2 = .ok (.getfield 9, 3) := by decide +kernel
theorem dX1_columnOf_5 : decode cX1_columnOf 5 = .ok (.invokestatic 76, 3) := by decide +kernel
theorem dX1_columnOf_8 : decode cX1_columnOf 8 = .ok (.ireturn, 1) := by decide +kernel
theorem dX1_rowOf_0 : decode cX1_rowOf 0 = .ok (.iload_n 1, 1) := by decide +kernel
theorem dX1_rowOf_1 : decode cX1_rowOf 1 = .ok (.aload_n 0, 1) := by decide +kernel
theorem dX1_rowOf_2 : decode cX1_rowOf 2 = .ok (.getfield 9, 3) := by decide +kernel
theorem dX1_rowOf_5 : decode cX1_rowOf 5 = .ok (.invokestatic 80, 3) := by decide +kernel
theorem dX1_rowOf_8 : decode cX1_rowOf 8 = .ok (.ireturn, 1) := by decide +kernel
theorem dX1_stepOf_0 : decode cX1_stepOf 0 = .ok (.aload_n 0, 1) := by decide +kernel
theorem dX1_stepOf_1 : decode cX1_stepOf 1 = .ok (.getfield 50, 3) := by decide +kernel
theorem dX1_stepOf_4 : decode cX1_stepOf 4 = .ok (.iload_n 1, 1) := by decide +kernel
theorem dX1_stepOf_5 : decode cX1_stepOf 5 = .ok (.bipush 12, 2) := by decide +kernel
theorem dX1_stepOf_7 : decode cX1_stepOf 7 = .ok (.imul, 1) := by decide +kernel
theorem dX1_stepOf_8 : decode cX1_stepOf 8 = .ok (.iload_n 2, 1) := by decide +kernel
theorem dX1_stepOf_9 : decode cX1_stepOf 9 = .ok (.aload_n 0, 1) := by decide +kernel
theorem dX1_stepOf_10 : decode cX1_stepOf 10 = .ok (.getfield 47, 3) := by decide +kernel
theorem dX1_stepOf_13 : decode cX1_stepOf 13 = .ok (.iload_n 1, 1) := by decide +kernel
theorem dX1_stepOf_14 : decode cX1_stepOf 14 = .ok (.iaload, 1) := by decide +kernel
theorem dX1_stepOf_15 : decode cX1_stepOf 15 = .ok (.invokestatic 76, 3) := by decide +kernel
theorem dX1_stepOf_18 : decode cX1_stepOf 18 = .ok (.iadd, 1) := by decide +kernel
theorem dX1_stepOf_19 : decode cX1_stepOf 19 = .ok (.iaload, 1) := by decide +kernel
theorem dX1_stepOf_20 : decode cX1_stepOf 20 = .ok (.ireturn, 1) := by decide +kernel
theorem dX1_cellBehind_0 : decode cX1_cellBehind 0 = .ok (.aload_n 0, 1) := by decide +kernel
theorem dX1_cellBehind_1 : decode cX1_cellBehind 1 = .ok (.iload_n 1, 1) := by decide +kernel
theorem dX1_cellBehind_2 : decode cX1_cellBehind 2 = .ok (.invokevirtual 83, 3) := by decide +kernel
theorem dX1_cellBehind_5 : decode cX1_cellBehind 5 = .ok (.istore_n 3, 1) := by decide +kernel
theorem dX1_cellBehind_6 : decode cX1_cellBehind 6 = .ok (.aload_n 0, 1) := by decide +kernel
theorem dX1_cellBehind_7 : decode cX1_cellBehind 7 = .ok (.iload_n 1, 1) := by decide +kernel
theorem dX1_cellBehind_8 : decode cX1_cellBehind 8 = .ok (.invokevirtual 87, 3) := by decide +kernel
theorem dX1_cellBehind_11 : decode cX1_cellBehind 11 = .ok (.istore 4, 2) := by decide +kernel
theorem dX1_cellBehind_13 : decode cX1_cellBehind 13 = .ok (.iload_n 2, 1) := by decide +kernel
theorem dX1_cellBehind_14 : decode cX1_cellBehind 14 = .ok (.tableswitch 98 0 3 #[30, 46, 64, 86], 30) := by decide +kernel
theorem dX1_cellBehind_44 : decode cX1_cellBehind 44 = .ok (.iload 4, 2) := by decide +kernel
theorem dX1_cellBehind_46 : decode cX1_cellBehind 46 = .ok (.ifCond .le 12, 3) := by decide +kernel
theorem dX1_cellBehind_49 : decode cX1_cellBehind 49 = .ok (.iload_n 1, 1) := by decide +kernel
theorem dX1_cellBehind_50 : decode cX1_cellBehind 50 = .ok (.aload_n 0, 1) := by decide +kernel
theorem dX1_cellBehind_51 : decode cX1_cellBehind 51 = .ok (.getfield 9, 3) := by decide +kernel
theorem dX1_cellBehind_54 : decode cX1_cellBehind 54 = .ok (.isub, 1) := by decide +kernel
theorem dX1_cellBehind_55 : decode cX1_cellBehind 55 = .ok (.goto 4, 3) := by decide +kernel
theorem dX1_cellBehind_58 : decode cX1_cellBehind 58 = .ok (.iconst (-1), 1) := by decide +kernel
theorem dX1_cellBehind_59 : decode cX1_cellBehind 59 = .ok (.ireturn, 1) := by decide +kernel
theorem dX1_cellBehind_60 : decode cX1_cellBehind 60 = .ok (.iload_n 3, 1) := by decide +kernel
theorem dX1_cellBehind_61 : decode cX1_cellBehind 61 = .ok (.iconst 1, 1) := by decide +kernel
theorem dX1_cellBehind_62 : decode cX1_cellBehind 62 = .ok (.iadd, 1) := by decide +kernel
theorem dX1_cellBehind_63 : decode cX1_cellBehind 63 = .ok (.aload_n 0, 1) := by decide +kernel
theorem dX1_cellBehind_64 : decode cX1_cellBehind 64 = .ok (.getfield 9, 3) := by decide +kernel
theorem dX1_cellBehind_67 : decode cX1_cellBehind 67 = .ok (.if_icmp .ge 9, 3) := by decide +kernel
theorem dX1_cellBehind_70 : decode cX1_cellBehind 70 = .ok (.iload_n 1, 1) := by decide +kernel
theorem dX1_cellBehind_71 : decode cX1_cellBehind 71 = .ok (.iconst 1, 1) := by decide +kernel
theorem dX1_cellBehind_72 : decode cX1_cellBehind 72 = .ok (.iadd, 1) := by decide +kernel
theorem dX1_cellBehind_73 : decode cX1_cellBehind 73 = .ok (.goto 4, 3) := by decide +kernel
theorem dX1_cellBehind_76 : decode cX1_cellBehind 76 = .ok (.iconst (-1), 1) := by decide +kernel
theorem dX1_cellBehind_77 : decode cX1_cellBehind 77 = .ok (.ireturn, 1) := by decide +kernel
theorem dX1_cellBehind_78 : decode cX1_cellBehind 78 = .ok (.iload 4, 2) := by decide +kernel
theorem dX1_cellBehind_80 : decode cX1_cellBehind 80 = .ok (.iconst 1, 1) := by decide +kernel
theorem dX1_cellBehind_81 : decode cX1_cellBehind 81 = .ok (.iadd, 1) := by decide +kernel
theorem dX1_cellBehind_82 : decode cX1_cellBehind 82 = .ok (.aload_n 0, 1) := by decide +kernel
theorem dX1_cellBehind_83 : decode cX1_cellBehind 83 = .ok (.getfield 15, 3) := by decide +kernel
theorem dX1_cellBehind_86 : decode cX1_cellBehind 86 = .ok (.if_icmp .ge 12, 3) := by decide +kernel
theorem dX1_cellBehind_89 : decode cX1_cellBehind 89 = .ok (.iload_n 1, 1) := by decide +kernel
theorem dX1_cellBehind_90 : decode cX1_cellBehind 90 = .ok (.aload_n 0, 1) := by decide +kernel
theorem dX1_cellBehind_91 : decode cX1_cellBehind 91 = .ok (.getfield 9, 3) := by decide +kernel
theorem dX1_cellBehind_94 : decode cX1_cellBehind 94 = .ok (.iadd, 1) := by decide +kernel
theorem dX1_cellBehind_95 : decode cX1_cellBehind 95 = .ok (.goto 4, 3) := by decide +kernel
theorem dX1_cellBehind_98 : decode cX1_cellBehind 98 = .ok (.iconst (-1), 1) := by decide +kernel
theorem dX1_cellBehind_99 : decode cX1_cellBehind 99 = .ok (.ireturn, 1) := by decide +kernel
theorem dX1_cellBehind_100 : decode cX1_cellBehind 100 = .ok (.iload_n 3, 1) := by decide +kernel
theorem dX1_cellBehind_101 : decode cX1_cellBehind 101 = .ok (.ifCond .le 9, 3) := by decide +kernel
theorem dX1_cellBehind_104 : decode cX1_cellBehind 104 = .ok (.iload_n 1, 1) := by decide +kernel
theorem dX1_cellBehind_105 : decode cX1_cellBehind 105 = .ok (.iconst 1, 1) := by decide +kernel
theorem dX1_cellBehind_106 : decode cX1_cellBehind 106 = .ok (.isub, 1) := by decide +kernel
theorem dX1_cellBehind_107 : decode cX1_cellBehind 107 = .ok (.goto 4, 3) := by decide +kernel
theorem dX1_cellBehind_110 : decode cX1_cellBehind 110 = .ok (.iconst (-1), 1) := by decide +kernel
theorem dX1_cellBehind_111 : decode cX1_cellBehind 111 = .ok (.ireturn, 1) := by decide +kernel
theorem dX1_cellBehind_112 : decode cX1_cellBehind 112 = .ok (.iload_n 1, 1) := by decide +kernel
theorem dX1_cellBehind_113 : decode cX1_cellBehind 113 = .ok (.ireturn, 1) := by decide +kernel
theorem dX1_farBetween_0 : decode cX1_farBetween 0 = .ok (.aload_n 0, 1) := by decide +kernel
theorem dX1_farBetween_1 : decode cX1_farBetween 1 = .ok (.iload_n 1, 1) := by decide +kernel
theorem dX1_farBetween_2 : decode cX1_farBetween 2 = .ok (.invokevirtual 83, 3) := by decide +kernel
theorem dX1_farBetween_5 : decode cX1_farBetween 5 = .ok (.aload_n 0, 1) := by decide +kernel
theorem dX1_farBetween_6 : decode cX1_farBetween 6 = .ok (.iload_n 2, 1) := by decide +kernel
theorem dX1_farBetween_7 : decode cX1_farBetween 7 = .ok (.invokevirtual 83, 3) := by decide +kernel
theorem dX1_farBetween_10 : decode cX1_farBetween 10 = .ok (.isub, 1) := by decide +kernel
theorem dX1_farBetween_11 : decode cX1_farBetween 11 = .ok (.invokestatic 90, 3) := by decide +kernel
theorem dX1_farBetween_14 : decode cX1_farBetween 14 = .ok (.aload_n 0, 1) := by decide +kernel
theorem dX1_farBetween_15 : decode cX1_farBetween 15 = .ok (.iload_n 1, 1) := by decide +kernel
theorem dX1_farBetween_16 : decode cX1_farBetween 16 = .ok (.invokevirtual 87, 3) := by decide +kernel
theorem dX1_farBetween_19 : decode cX1_farBetween 19 = .ok (.aload_n 0, 1) := by decide +kernel
theorem dX1_farBetween_20 : decode cX1_farBetween 20 = .ok (.iload_n 2, 1) := by decide +kernel
theorem dX1_farBetween_21 : decode cX1_farBetween 21 = .ok (.invokevirtual 87, 3) := by decide +kernel
theorem dX1_farBetween_24 : decode cX1_farBetween 24 = .ok (.isub, 1) := by decide +kernel
theorem dX1_farBetween_25 : decode cX1_farBetween 25 = .ok (.invokestatic 90, 3) := by decide +kernel
theorem dX1_farBetween_28 : decode cX1_farBetween 28 = .ok (.invokestatic 95, 3) := by decide +kernel
theorem dX1_farBetween_31 : decode cX1_farBetween 31 = .ok (.ireturn, 1) := by decide +kernel
theorem dX1_isWithin_0 : decode cX1_isWithin 0 = .ok (.iload_n 1, 1) := by decide +kernel
theorem dX1_isWithin_1 : decode cX1_isWithin 1 = .ok (.ifCond .lt 20, 3) := by decide +kernel
theorem dX1_isWithin_4 : decode cX1_isWithin 4 = .ok (.iload_n 0, 1) := by decide +kernel
theorem dX1_isWithin_5 : decode cX1_isWithin 5 = .ok (.ifCond .lt 12, 3) := by decide +kernel
theorem dX1_isWithin_8 : decode cX1_isWithin 8 = .ok (.iload_n 0, 1) := by decide +kernel
theorem dX1_isWithin_9 : decode cX1_isWithin 9 = .ok (.iload_n 1, 1) := by decide +kernel
theorem dX1_isWithin_10 : decode cX1_isWithin 10 = .ok (.if_icmp .gt 7, 3) := by decide +kernel
theorem dX1_isWithin_13 : decode cX1_isWithin 13 = .ok (.iconst 1, 1) := by decide +kernel
theorem dX1_isWithin_14 : decode cX1_isWithin 14 = .ok (.goto 21, 3) := by decide +kernel
theorem dX1_isWithin_17 : decode cX1_isWithin 17 = .ok (.iconst 0, 1) := by decide +kernel
theorem dX1_isWithin_18 : decode cX1_isWithin 18 = .ok (.goto 17, 3) := by decide +kernel
theorem dX1_isWithin_21 : decode cX1_isWithin 21 = .ok (.iload_n 0, 1) := by decide +kernel
theorem dX1_isWithin_22 : decode cX1_isWithin 22 = .ok (.ifCond .gt 12, 3) := by decide +kernel
theorem dX1_isWithin_25 : decode cX1_isWithin 25 = .ok (.iload_n 0, 1) := by decide +kernel
theorem dX1_isWithin_26 : decode cX1_isWithin 26 = .ok (.iload_n 1, 1) := by decide +kernel
theorem dX1_isWithin_27 : decode cX1_isWithin 27 = .ok (.if_icmp .lt 7, 3) := by decide +kernel
theorem dX1_isWithin_30 : decode cX1_isWithin 30 = .ok (.iconst 1, 1) := by decide +kernel
theorem dX1_isWithin_31 : decode cX1_isWithin 31 = .ok (.goto 4, 3) := by decide +kernel
theorem dX1_isWithin_34 : decode cX1_isWithin 34 = .ok (.iconst 0, 1) := by decide +kernel
theorem dX1_isWithin_35 : decode cX1_isWithin 35 = .ok (.ireturn, 1) := by decide +kernel
theorem dX1_isBetween_0 : decode cX1_isBetween 0 = .ok (.iload_n 0, 1) := by decide +kernel
theorem dX1_isBetween_1 : decode cX1_isBetween 1 = .ok (.iload_n 3, 1) := by decide +kernel
theorem dX1_isBetween_2 : decode cX1_isBetween 2 = .ok (.imul, 1) := by decide +kernel
theorem dX1_isBetween_3 : decode cX1_isBetween 3 = .ok (.iload_n 1, 1) := by decide +kernel
theorem dX1_isBetween_4 : decode cX1_isBetween 4 = .ok (.iload_n 2, 1) := by decide +kernel
theorem dX1_isBetween_5 : decode cX1_isBetween 5 = .ok (.imul, 1) := by decide +kernel
theorem dX1_isBetween_6 : decode cX1_isBetween 6 = .ok (.if_icmp .ne 41, 3) := by decide +kernel
theorem dX1_isBetween_9 : decode cX1_isBetween 9 = .ok (.iload_n 0, 1) := by decide +kernel
theorem dX1_isBetween_10 : decode cX1_isBetween 10 = .ok (.iload_n 2, 1) := by decide +kernel
theorem dX1_isBetween_11 : decode cX1_isBetween 11 = .ok (.invokestatic 102, 3) := by decide +kernel
theorem dX1_isBetween_14 : decode cX1_isBetween 14 = .ok (.ifCond .eq 33, 3) := by decide +kernel
theorem dX1_isBetween_17 : decode cX1_isBetween 17 = .ok (.iload_n 1, 1) := by decide +kernel
theorem dX1_isBetween_18 : decode cX1_isBetween 18 = .ok (.iload_n 3, 1) := by decide +kernel
theorem dX1_isBetween_19 : decode cX1_isBetween 19 = .ok (.invokestatic 102, 3) := by decide +kernel
theorem dX1_isBetween_22 : decode cX1_isBetween 22 = .ok (.ifCond .eq 25, 3) := by decide +kernel
theorem dX1_isBetween_25 : decode cX1_isBetween 25 = .ok (.iload_n 0, 1) := by decide +kernel
theorem dX1_isBetween_26 : decode cX1_isBetween 26 = .ok (.ifCond .ne 7, 3) := by decide +kernel
theorem dX1_isBetween_29 : decode cX1_isBetween 29 = .ok (.iload_n 1, 1) := by decide +kernel
theorem dX1_isBetween_30 : decode cX1_isBetween 30 = .ok (.ifCond .eq 17, 3) := by decide +kernel
theorem dX1_isBetween_33 : decode cX1_isBetween 33 = .ok (.iload_n 0, 1) := by decide +kernel
theorem dX1_isBetween_34 : decode cX1_isBetween 34 = .ok (.iload_n 2, 1) := by decide +kernel
theorem dX1_isBetween_35 : decode cX1_isBetween 35 = .ok (.if_icmp .ne 8, 3) := by decide +kernel
theorem dX1_isBetween_38 : decode cX1_isBetween 38 = .ok (.iload_n 1, 1) := by decide +kernel
theorem dX1_isBetween_39 : decode cX1_isBetween 39 = .ok (.iload_n 3, 1) := by decide +kernel
theorem dX1_isBetween_40 : decode cX1_isBetween 40 = .ok (.if_icmp .eq 7, 3) := by decide +kernel
theorem dX1_isBetween_43 : decode cX1_isBetween 43 = .ok (.iconst 1, 1) := by decide +kernel
theorem dX1_isBetween_44 : decode cX1_isBetween 44 = .ok (.goto 4, 3) := by decide +kernel
theorem dX1_isBetween_47 : decode cX1_isBetween 47 = .ok (.iconst 0, 1) := by decide +kernel
theorem dX1_isBetween_48 : decode cX1_isBetween 48 = .ok (.ireturn, 1) := by decide +kernel
theorem dX1_sight_0 : decode cX1_sight 0 = .ok (.aload_n 0, 1) := by decide +kernel
theorem dX1_sight_1 : decode cX1_sight 1 = .ok (.iload_n 1, 1) := by decide +kernel
theorem dX1_sight_2 : decode cX1_sight 2 = .ok (.invokevirtual 83, 3) := by decide +kernel
theorem dX1_sight_5 : decode cX1_sight 5 = .ok (.istore_n 3, 1) := by decide +kernel
theorem dX1_sight_6 : decode cX1_sight 6 = .ok (.aload_n 0, 1) := by decide +kernel
theorem dX1_sight_7 : decode cX1_sight 7 = .ok (.iload_n 1, 1) := by decide +kernel
theorem dX1_sight_8 : decode cX1_sight 8 = .ok (.invokevirtual 87, 3) := by decide +kernel
theorem dX1_sight_11 : decode cX1_sight 11 = .ok (.istore 4, 2) := by decide +kernel
theorem dX1_sight_13 : decode cX1_sight 13 = .ok (.aload_n 0, 1) := by decide +kernel
theorem dX1_sight_14 : decode cX1_sight 14 = .ok (.iload_n 2, 1) := by decide +kernel
theorem dX1_sight_15 : decode cX1_sight 15 = .ok (.invokevirtual 83, 3) := by decide +kernel
theorem dX1_sight_18 : decode cX1_sight 18 = .ok (.iload_n 3, 1) := by decide +kernel
theorem dX1_sight_19 : decode cX1_sight 19 = .ok (.isub, 1) := by decide +kernel
theorem dX1_sight_20 : decode cX1_sight 20 = .ok (.istore 5, 2) := by decide +kernel
theorem dX1_sight_22 : decode cX1_sight 22 = .ok (.aload_n 0, 1) := by decide +kernel
theorem dX1_sight_23 : decode cX1_sight 23 = .ok (.iload_n 2, 1) := by decide +kernel
theorem dX1_sight_24 : decode cX1_sight 24 = .ok (.invokevirtual 87, 3) := by decide +kernel
theorem dX1_sight_27 : decode cX1_sight 27 = .ok (.iload 4, 2) := by decide +kernel
theorem dX1_sight_29 : decode cX1_sight 29 = .ok (.isub, 1) := by decide +kernel
theorem dX1_sight_30 : decode cX1_sight 30 = .ok (.istore 6, 2) := by decide +kernel
theorem dX1_sight_32 : decode cX1_sight 32 = .ok (.iconst 0, 1) := by decide +kernel
theorem dX1_sight_33 : decode cX1_sight 33 = .ok (.istore 7, 2) := by decide +kernel
theorem dX1_sight_35 : decode cX1_sight 35 = .ok (.iload 7, 2) := by decide +kernel
theorem dX1_sight_37 : decode cX1_sight 37 = .ok (.aload_n 0, 1) := by decide +kernel
theorem dX1_sight_38 : decode cX1_sight 38 = .ok (.getfield 18, 3) := by decide +kernel
theorem dX1_sight_41 : decode cX1_sight 41 = .ok (.if_icmp .ge 41, 3) := by decide +kernel
theorem dX1_sight_44 : decode cX1_sight 44 = .ok (.aload_n 0, 1) := by decide +kernel
theorem dX1_sight_45 : decode cX1_sight 45 = .ok (.getfield 34, 3) := by decide +kernel
theorem dX1_sight_48 : decode cX1_sight 48 = .ok (.iload 7, 2) := by decide +kernel
theorem dX1_sight_50 : decode cX1_sight 50 = .ok (.iaload, 1) := by decide +kernel
theorem dX1_sight_51 : decode cX1_sight 51 = .ok (.iload_n 3, 1) := by decide +kernel
theorem dX1_sight_52 : decode cX1_sight 52 = .ok (.isub, 1) := by decide +kernel
theorem dX1_sight_53 : decode cX1_sight 53 = .ok (.aload_n 0, 1) := by decide +kernel
theorem dX1_sight_54 : decode cX1_sight 54 = .ok (.getfield 38, 3) := by decide +kernel
theorem dX1_sight_57 : decode cX1_sight 57 = .ok (.iload 7, 2) := by decide +kernel
theorem dX1_sight_59 : decode cX1_sight 59 = .ok (.iaload, 1) := by decide +kernel
theorem dX1_sight_60 : decode cX1_sight 60 = .ok (.iload 4, 2) := by decide +kernel
theorem dX1_sight_62 : decode cX1_sight 62 = .ok (.isub, 1) := by decide +kernel
theorem dX1_sight_63 : decode cX1_sight 63 = .ok (.iload 5, 2) := by decide +kernel
theorem dX1_sight_65 : decode cX1_sight 65 = .ok (.iload 6, 2) := by decide +kernel
theorem dX1_sight_67 : decode cX1_sight 67 = .ok (.invokestatic 98, 3) := by decide +kernel
theorem dX1_sight_70 : decode cX1_sight 70 = .ok (.ifCond .eq 6, 3) := by decide +kernel
theorem dX1_sight_73 : decode cX1_sight 73 = .ok (.bipush 99, 2) := by decide +kernel
theorem dX1_sight_75 : decode cX1_sight 75 = .ok (.ireturn, 1) := by decide +kernel
theorem dX1_sight_76 : decode cX1_sight 76 = .ok (.iinc 7 1, 3) := by decide +kernel
theorem dX1_sight_79 : decode cX1_sight 79 = .ok (.goto (-44), 3) := by decide +kernel
theorem dX1_sight_82 : decode cX1_sight 82 = .ok (.iload 5, 2) := by decide +kernel
theorem dX1_sight_84 : decode cX1_sight 84 = .ok (.invokestatic 90, 3) := by decide +kernel
theorem dX1_sight_87 : decode cX1_sight 87 = .ok (.iload 6, 2) := by decide +kernel
theorem dX1_sight_89 : decode cX1_sight 89 = .ok (.invokestatic 90, 3) := by decide +kernel
theorem dX1_sight_92 : decode cX1_sight 92 = .ok (.invokestatic 95, 3) := by decide +kernel
theorem dX1_sight_95 : decode cX1_sight 95 = .ok (.ireturn, 1) := by decide +kernel
theorem dX1_fogIn_0 : decode cX1_fogIn 0 = .ok (.aload_n 0, 1) := by decide +kernel
theorem dX1_fogIn_1 : decode cX1_fogIn 1 = .ok (.getfield 27, 3) := by decide +kernel
theorem dX1_fogIn_4 : decode cX1_fogIn 4 = .ok (.ifCond .gt 7, 3) := by decide +kernel
theorem dX1_fogIn_7 : decode cX1_fogIn 7 = .ok (.iconst 0, 1) := by decide +kernel
theorem dX1_fogIn_8 : decode cX1_fogIn 8 = .ok (.goto 16, 3) := by decide +kernel
theorem dX1_fogIn_11 : decode cX1_fogIn 11 = .ok (.aload_n 0, 1) := by decide +kernel
theorem dX1_fogIn_12 : decode cX1_fogIn 12 = .ok (.getfield 59, 3) := by decide +kernel
theorem dX1_fogIn_15 : decode cX1_fogIn 15 = .ok (.iload_n 1, 1) := by decide +kernel
theorem dX1_fogIn_16 : decode cX1_fogIn 16 = .ok (.aload_n 0, 1) := by decide +kernel
theorem dX1_fogIn_17 : decode cX1_fogIn 17 = .ok (.getfield 27, 3) := by decide +kernel
theorem dX1_fogIn_20 : decode cX1_fogIn 20 = .ok (.invokestatic 76, 3) := by decide +kernel
theorem dX1_fogIn_23 : decode cX1_fogIn 23 = .ok (.iaload, 1) := by decide +kernel
theorem dX1_fogIn_24 : decode cX1_fogIn 24 = .ok (.ireturn, 1) := by decide +kernel
theorem dX1_flashesFrom_0 : decode cX1_flashesFrom 0 = .ok (.iload_n 3, 1) := by decide +kernel
theorem dX1_flashesFrom_1 : decode cX1_flashesFrom 1 = .ok (.istore 5, 2) := by decide +kernel
theorem dX1_flashesFrom_3 : decode cX1_flashesFrom 3 = .ok (.iconst 0, 1) := by decide +kernel
theorem dX1_flashesFrom_4 : decode cX1_flashesFrom 4 = .ok (.istore 6, 2) := by decide +kernel
theorem dX1_flashesFrom_6 : decode cX1_flashesFrom 6 = .ok (.iload 6, 2) := by decide +kernel
theorem dX1_flashesFrom_8 : decode cX1_flashesFrom 8 = .ok (.iload 4, 2) := by decide +kernel
theorem dX1_flashesFrom_10 : decode cX1_flashesFrom 10 = .ok (.if_icmp .ge 60, 3) := by decide +kernel
theorem dX1_flashesFrom_13 : decode cX1_flashesFrom 13 = .ok (.iload 5, 2) := by decide +kernel
theorem dX1_flashesFrom_15 : decode cX1_flashesFrom 15 = .ok (.iconst 3, 1) := by decide +kernel
theorem dX1_flashesFrom_16 : decode cX1_flashesFrom 16 = .ok (.irem, 1) := by decide +kernel
theorem dX1_flashesFrom_17 : decode cX1_flashesFrom 17 = .ok (.istore 7, 2) := by decide +kernel
theorem dX1_flashesFrom_19 : decode cX1_flashesFrom 19 = .ok (.aload_n 0, 1) := by decide +kernel
theorem dX1_flashesFrom_20 : decode cX1_flashesFrom 20 = .ok (.getfield 56, 3) := by decide +kernel
theorem dX1_flashesFrom_23 : decode cX1_flashesFrom 23 = .ok (.iload_n 1, 1) := by decide +kernel
theorem dX1_flashesFrom_24 : decode cX1_flashesFrom 24 = .ok (.iaload, 1) := by decide +kernel
theorem dX1_flashesFrom_25 : decode cX1_flashesFrom 25 = .ok (.iload_n 2, 1) := by decide +kernel
theorem dX1_flashesFrom_26 : decode cX1_flashesFrom 26 = .ok (.iload 6, 2) := by decide +kernel
theorem dX1_flashesFrom_28 : decode cX1_flashesFrom 28 = .ok (.iadd, 1) := by decide +kernel
theorem dX1_flashesFrom_29 : decode cX1_flashesFrom 29 = .ok (.aload_n 0, 1) := by decide +kernel
theorem dX1_flashesFrom_30 : decode cX1_flashesFrom 30 = .ok (.getfield 53, 3) := by decide +kernel
theorem dX1_flashesFrom_33 : decode cX1_flashesFrom 33 = .ok (.iload_n 1, 1) := by decide +kernel
theorem dX1_flashesFrom_34 : decode cX1_flashesFrom 34 = .ok (.iaload, 1) := by decide +kernel
theorem dX1_flashesFrom_35 : decode cX1_flashesFrom 35 = .ok (.invokestatic 76, 3) := by decide +kernel
theorem dX1_flashesFrom_38 : decode cX1_flashesFrom 38 = .ok (.ishr, 1) := by decide +kernel
theorem dX1_flashesFrom_39 : decode cX1_flashesFrom 39 = .ok (.iconst 1, 1) := by decide +kernel
theorem dX1_flashesFrom_40 : decode cX1_flashesFrom 40 = .ok (.iand, 1) := by decide +kernel
theorem dX1_flashesFrom_41 : decode cX1_flashesFrom 41 = .ok (.istore 8, 2) := by decide +kernel
theorem dX1_flashesFrom_43 : decode cX1_flashesFrom 43 = .ok (.iload 7, 2) := by decide +kernel
theorem dX1_flashesFrom_45 : decode cX1_flashesFrom 45 = .ok (.iconst 2, 1) := by decide +kernel
theorem dX1_flashesFrom_46 : decode cX1_flashesFrom 46 = .ok (.if_icmp .eq 12, 3) := by decide +kernel
theorem dX1_flashesFrom_49 : decode cX1_flashesFrom 49 = .ok (.iload 7, 2) := by decide +kernel
theorem dX1_flashesFrom_51 : decode cX1_flashesFrom 51 = .ok (.iload 8, 2) := by decide +kernel
theorem dX1_flashesFrom_53 : decode cX1_flashesFrom 53 = .ok (.if_icmp .eq 5, 3) := by decide +kernel
theorem dX1_flashesFrom_56 : decode cX1_flashesFrom 56 = .ok (.iconst 0, 1) := by decide +kernel
theorem dX1_flashesFrom_57 : decode cX1_flashesFrom 57 = .ok (.ireturn, 1) := by decide +kernel
theorem dX1_flashesFrom_58 : decode cX1_flashesFrom 58 = .ok (.iload 5, 2) := by decide +kernel
theorem dX1_flashesFrom_60 : decode cX1_flashesFrom 60 = .ok (.iconst 3, 1) := by decide +kernel
theorem dX1_flashesFrom_61 : decode cX1_flashesFrom 61 = .ok (.idiv, 1) := by decide +kernel
theorem dX1_flashesFrom_62 : decode cX1_flashesFrom 62 = .ok (.istore 5, 2) := by decide +kernel
theorem dX1_flashesFrom_64 : decode cX1_flashesFrom 64 = .ok (.iinc 6 1, 3) := by decide +kernel
theorem dX1_flashesFrom_67 : decode cX1_flashesFrom 67 = .ok (.goto (-61), 3) := by decide +kernel
theorem dX1_flashesFrom_70 : decode cX1_flashesFrom 70 = .ok (.iconst 1, 1) := by decide +kernel
theorem dX1_flashesFrom_71 : decode cX1_flashesFrom 71 = .ok (.ireturn, 1) := by decide +kernel
theorem dX1_mayFlash_0 : decode cX1_mayFlash 0 = .ok (.iconst 0, 1) := by decide +kernel
theorem dX1_mayFlash_1 : decode cX1_mayFlash 1 = .ok (.istore 4, 2) := by decide +kernel
theorem dX1_mayFlash_3 : decode cX1_mayFlash 3 = .ok (.iload 4, 2) := by decide +kernel
theorem dX1_mayFlash_5 : decode cX1_mayFlash 5 = .ok (.aload_n 0, 1) := by decide +kernel
theorem dX1_mayFlash_6 : decode cX1_mayFlash 6 = .ok (.getfield 53, 3) := by decide +kernel
theorem dX1_mayFlash_9 : decode cX1_mayFlash 9 = .ok (.iload_n 1, 1) := by decide +kernel
theorem dX1_mayFlash_10 : decode cX1_mayFlash 10 = .ok (.iaload, 1) := by decide +kernel
theorem dX1_mayFlash_11 : decode cX1_mayFlash 11 = .ok (.if_icmp .ge 23, 3) := by decide +kernel
theorem dX1_mayFlash_14 : decode cX1_mayFlash 14 = .ok (.aload_n 0, 1) := by decide +kernel
theorem dX1_mayFlash_15 : decode cX1_mayFlash 15 = .ok (.iload_n 1, 1) := by decide +kernel
theorem dX1_mayFlash_16 : decode cX1_mayFlash 16 = .ok (.iload 4, 2) := by decide +kernel
theorem dX1_mayFlash_18 : decode cX1_mayFlash 18 = .ok (.iload_n 2, 1) := by decide +kernel
theorem dX1_mayFlash_19 : decode cX1_mayFlash 19 = .ok (.iload_n 3, 1) := by decide +kernel
theorem dX1_mayFlash_20 : decode cX1_mayFlash 20 = .ok (.invokevirtual 106, 3) := by decide +kernel
theorem dX1_mayFlash_23 : decode cX1_mayFlash 23 = .ok (.ifCond .eq 5, 3) := by decide +kernel
theorem dX1_mayFlash_26 : decode cX1_mayFlash 26 = .ok (.iconst 1, 1) := by decide +kernel
theorem dX1_mayFlash_27 : decode cX1_mayFlash 27 = .ok (.ireturn, 1) := by decide +kernel
theorem dX1_mayFlash_28 : decode cX1_mayFlash 28 = .ok (.iinc 4 1, 3) := by decide +kernel
theorem dX1_mayFlash_31 : decode cX1_mayFlash 31 = .ok (.goto (-28), 3) := by decide +kernel
theorem dX1_mayFlash_34 : decode cX1_mayFlash 34 = .ok (.iconst 0, 1) := by decide +kernel
theorem dX1_mayFlash_35 : decode cX1_mayFlash 35 = .ok (.ireturn, 1) := by decide +kernel
theorem dX1_clear_0 : decode cX1_clear 0 = .ok (.aload_n 0, 1) := by decide +kernel
theorem dX1_clear_1 : decode cX1_clear 1 = .ok (.bipush 8, 2) := by decide +kernel
theorem dX1_clear_3 : decode cX1_clear 3 = .ok (.putfield 9, 3) := by decide +kernel
theorem dX1_clear_6 : decode cX1_clear 6 = .ok (.aload_n 0, 1) := by decide +kernel
theorem dX1_clear_7 : decode cX1_clear 7 = .ok (.bipush 8, 2) := by decide +kernel
theorem dX1_clear_9 : decode cX1_clear 9 = .ok (.putfield 15, 3) := by decide +kernel
theorem dX1_clear_12 : decode cX1_clear 12 = .ok (.aload_n 0, 1) := by decide +kernel
theorem dX1_clear_13 : decode cX1_clear 13 = .ok (.iconst 0, 1) := by decide +kernel
theorem dX1_clear_14 : decode cX1_clear 14 = .ok (.putfield 18, 3) := by decide +kernel
theorem dX1_clear_17 : decode cX1_clear 17 = .ok (.aload_n 0, 1) := by decide +kernel
theorem dX1_clear_18 : decode cX1_clear 18 = .ok (.iconst 0, 1) := by decide +kernel
theorem dX1_clear_19 : decode cX1_clear 19 = .ok (.putfield 21, 3) := by decide +kernel
theorem dX1_clear_22 : decode cX1_clear 22 = .ok (.aload_n 0, 1) := by decide +kernel
theorem dX1_clear_23 : decode cX1_clear 23 = .ok (.iconst 0, 1) := by decide +kernel
theorem dX1_clear_24 : decode cX1_clear 24 = .ok (.putfield 24, 3) := by decide +kernel
theorem dX1_clear_27 : decode cX1_clear 27 = .ok (.aload_n 0, 1) := by decide +kernel
theorem dX1_clear_28 : decode cX1_clear 28 = .ok (.iconst 0, 1) := by decide +kernel
theorem dX1_clear_29 : decode cX1_clear 29 = .ok (.putfield 27, 3) := by decide +kernel
theorem dX1_clear_32 : decode cX1_clear 32 = .ok (.aload_n 0, 1) := by decide +kernel
theorem dX1_clear_33 : decode cX1_clear 33 = .ok (.getfield 65, 3) := by decide +kernel
theorem dX1_clear_36 : decode cX1_clear 36 = .ok (.invokevirtual 69, 3) := by decide +kernel
theorem dX1_clear_39 : decode cX1_clear 39 = .ok (.iconst 0, 1) := by decide +kernel
theorem dX1_clear_40 : decode cX1_clear 40 = .ok (.istore_n 1, 1) := by decide +kernel
theorem dX1_clear_41 : decode cX1_clear 41 = .ok (.iload_n 1, 1) := by decide +kernel
theorem dX1_clear_42 : decode cX1_clear 42 = .ok (.sipush 144, 3) := by decide +kernel
theorem dX1_clear_45 : decode cX1_clear 45 = .ok (.if_icmp .ge 16, 3) := by decide +kernel
theorem dX1_clear_48 : decode cX1_clear 48 = .ok (.aload_n 0, 1) := by decide +kernel
theorem dX1_clear_49 : decode cX1_clear 49 = .ok (.getfield 30, 3) := by decide +kernel
theorem dX1_clear_52 : decode cX1_clear 52 = .ok (.iload_n 1, 1) := by decide +kernel
theorem dX1_clear_53 : decode cX1_clear 53 = .ok (.iconst 0, 1) := by decide +kernel
theorem dX1_clear_54 : decode cX1_clear 54 = .ok (.bastore, 1) := by decide +kernel
theorem dX1_clear_55 : decode cX1_clear 55 = .ok (.iinc 1 1, 3) := by decide +kernel
theorem dX1_clear_58 : decode cX1_clear 58 = .ok (.goto (-17), 3) := by decide +kernel
theorem dX1_clear_61 : decode cX1_clear 61 = .ok (.return_, 1) := by decide +kernel
