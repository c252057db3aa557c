theorem dX11_years_22 : decode cX11_years 22 = .ok (.invokespecial 105, 3) := by decide +kernel
theorem dX11_years_25 : decode cX11_years 25 = .ok (.athrow, 1) := by decide +kernel
theorem dX11_years_26 : decode cX11_years 26 = .ok (.aload_n 0, 1) := by decide +kernel
theorem dX11_years_27 : decode cX11_years 27 = .ok (.invokevirtual 203, 3) := by decide +kernel
theorem dX11_years_30 : decode cX11_years 30 = .ok (.aload_n 0, 1) := by decide +kernel
theorem dX11_years_31 : decode cX11_years 31 = .ok (.getfield 71, 3) := by decide +kernel
theorem dX11_years_34 : decode cX11_years 34 = .ok (.aload_n 0, 1) := by decide +kernel
theorem dX11_years_35 : decode cX11_years 35 = .ok (.getfield 33, 3) := by decide +kernel
theorem dX11_years_38 : decode cX11_years 38 = .ok (.invokevirtual 322, 3) := by decide +kernel
theorem dX11_years_41 : decode cX11_years 41 = .ok (.aload_n 0, 1) := by decide +kernel
theorem dX11_years_42 : decode cX11_years 42 = .ok (.iload_n 1, 1) := by decide +kernel
theorem dX11_years_43 : decode cX11_years 43 = .ok (.putfield 94, 3) := by decide +kernel
theorem dX11_years_46 : decode cX11_years 46 = .ok (.iconst 0, 1) := by decide +kernel
theorem dX11_years_47 : decode cX11_years 47 = .ok (.istore 4, 2) := by decide +kernel
theorem dX11_years_49 : decode cX11_years 49 = .ok (.iload_n 2, 1) := by decide +kernel
theorem dX11_years_50 : decode cX11_years 50 = .ok (.ifCond .ne 7, 3) := by decide +kernel
theorem dX11_years_53 : decode cX11_years 53 = .ok (.iconst 0, 1) := by decide +kernel
theorem dX11_years_54 : decode cX11_years 54 = .ok (.goto 10, 3) := by decide +kernel
theorem dX11_years_57 : decode cX11_years 57 = .ok (.aload_n 0, 1) := by decide +kernel
theorem dX11_years_58 : decode cX11_years 58 = .ok (.getfield 26, 3) := by decide +kernel
theorem dX11_years_61 : decode cX11_years 61 = .ok (.getfield 130, 3) := by decide +kernel
theorem dX11_years_64 : decode cX11_years 64 = .ok (.istore 5, 2) := by decide +kernel
theorem dX11_years_66 : decode cX11_years 66 = .ok (.iconst 0, 1) := by decide +kernel
theorem dX11_years_67 : decode cX11_years 67 = .ok (.istore 6, 2) := by decide +kernel
theorem dX11_years_69 : decode cX11_years 69 = .ok (.iconst 0, 1) := by decide +kernel
theorem dX11_years_70 : decode cX11_years 70 = .ok (.istore 7, 2) := by decide +kernel
theorem dX11_years_72 : decode cX11_years 72 = .ok (.iload 7, 2) := by decide +kernel
theorem dX11_years_74 : decode cX11_years 74 = .ok (.iload_n 2, 1) := by decide +kernel
theorem dX11_years_75 : decode cX11_years 75 = .ok (.if_icmp .ge 66, 3) := by decide +kernel
theorem dX11_years_78 : decode cX11_years 78 = .ok (.aload_n 0, 1) := by decide +kernel
theorem dX11_years_79 : decode cX11_years 79 = .ok (.invokevirtual 342, 3) := by decide +kernel
theorem dX11_years_82 : decode cX11_years 82 = .ok (.aload_n 0, 1) := by decide +kernel
theorem dX11_years_83 : decode cX11_years 83 = .ok (.aload_n 0, 1) := by decide +kernel
theorem dX11_years_84 : decode cX11_years 84 = .ok (.bipush 10, 2) := by decide +kernel
theorem dX11_years_86 : decode cX11_years 86 = .ok (.invokevirtual 345, 3) := by decide +kernel
theorem dX11_years_89 : decode cX11_years 89 = .ok (.invokevirtual 348, 3) := by decide +kernel
theorem dX11_years_92 : decode cX11_years 92 = .ok (.invokestatic 268, 3) := by decide +kernel
theorem dX11_years_95 : decode cX11_years 95 = .ok (.istore 8, 2) := by decide +kernel
theorem dX11_years_97 : decode cX11_years 97 = .ok (.iload 4, 2) := by decide +kernel
theorem dX11_years_99 : decode cX11_years 99 = .ok (.iload 8, 2) := by decide +kernel
theorem dX11_years_101 : decode cX11_years 101 = .ok (.iadd, 1) := by decide +kernel
theorem dX11_years_102 : decode cX11_years 102 = .ok (.istore 4, 2) := by decide +kernel
theorem dX11_years_104 : decode cX11_years 104 = .ok (.iload 5, 2) := by decide +kernel
theorem dX11_years_106 : decode cX11_years 106 = .ok (.iload 8, 2) := by decide +kernel
theorem dX11_years_108 : decode cX11_years 108 = .ok (.invokestatic 329, 3) := by decide +kernel
theorem dX11_years_111 : decode cX11_years 111 = .ok (.istore 5, 2) := by decide +kernel
theorem dX11_years_113 : decode cX11_years 113 = .ok (.iload 6, 2) := by decide +kernel
theorem dX11_years_115 : decode cX11_years 115 = .ok (.iload 8, 2) := by decide +kernel
theorem dX11_years_117 : decode cX11_years 117 = .ok (.aload_n 0, 1) := by decide +kernel
theorem dX11_years_118 : decode cX11_years 118 = .ok (.getfield 26, 3) := by decide +kernel
theorem dX11_years_121 : decode cX11_years 121 = .ok (.getfield 130, 3) := by decide +kernel
theorem dX11_years_124 : decode cX11_years 124 = .ok (.if_icmp .ne 7, 3) := by decide +kernel
theorem dX11_years_127 : decode cX11_years 127 = .ok (.iconst 1, 1) := by decide +kernel
theorem dX11_years_128 : decode cX11_years 128 = .ok (.goto 4, 3) := by decide +kernel
theorem dX11_years_131 : decode cX11_years 131 = .ok (.iconst 0, 1) := by decide +kernel
theorem dX11_years_132 : decode cX11_years 132 = .ok (.iadd, 1) := by decide +kernel
theorem dX11_years_133 : decode cX11_years 133 = .ok (.istore 6, 2) := by decide +kernel
theorem dX11_years_135 : decode cX11_years 135 = .ok (.iinc 7 1, 3) := by decide +kernel
theorem dX11_years_138 : decode cX11_years 138 = .ok (.goto (-66), 3) := by decide +kernel
theorem dX11_years_141 : decode cX11_years 141 = .ok (.iload_n 3, 1) := by decide +kernel
theorem dX11_years_142 : decode cX11_years 142 = .ok (.ifCond .ne 6, 3) := by decide +kernel
theorem dX11_years_145 : decode cX11_years 145 = .ok (.iload 4, 2) := by decide +kernel
theorem dX11_years_147 : decode cX11_years 147 = .ok (.ireturn, 1) := by decide +kernel
theorem dX11_years_148 : decode cX11_years 148 = .ok (.iload_n 3, 1) := by decide +kernel
theorem dX11_years_149 : decode cX11_years 149 = .ok (.iconst 1, 1) := by decide +kernel
theorem dX11_years_150 : decode cX11_years 150 = .ok (.if_icmp .ne 8, 3) := by decide +kernel
theorem dX11_years_153 : decode cX11_years 153 = .ok (.iload 5, 2) := by decide +kernel
theorem dX11_years_155 : decode cX11_years 155 = .ok (.goto 5, 3) := by decide +kernel
theorem dX11_years_158 : decode cX11_years 158 = .ok (.iload 6, 2) := by decide +kernel
theorem dX11_years_160 : decode cX11_years 160 = .ok (.ireturn, 1) := by decide +kernel
theorem dX11_father_0 : decode cX11_father 0 = .ok (.aload_n 0, 1) := by decide +kernel
theorem dX11_father_1 : decode cX11_father 1 = .ok (.iload_n 1, 1) := by decide +kernel
theorem dX11_father_2 : decode cX11_father 2 = .ok (.invokevirtual 190, 3) := by decide +kernel
theorem dX11_father_5 : decode cX11_father 5 = .ok (.iload_n 2, 1) := by decide +kernel
theorem dX11_father_6 : decode cX11_father 6 = .ok (.invokestatic 213, 3) := by decide +kernel
theorem dX11_father_9 : decode cX11_father 9 = .ok (.aload_n 0, 1) := by decide +kernel
theorem dX11_father_10 : decode cX11_father 10 = .ok (.invokevirtual 203, 3) := by decide +kernel
theorem dX11_father_13 : decode cX11_father 13 = .ok (.aload_n 0, 1) := by decide +kernel
theorem dX11_father_14 : decode cX11_father 14 = .ok (.getfield 64, 3) := by decide +kernel
theorem dX11_father_17 : decode cX11_father 17 = .ok (.iload_n 1, 1) := by decide +kernel
theorem dX11_father_18 : decode cX11_father 18 = .ok (.iload_n 2, 1) := by decide +kernel
theorem dX11_father_19 : decode cX11_father 19 = .ok (.invokevirtual 227, 3) := by decide +kernel
theorem dX11_father_22 : decode cX11_father 22 = .ok (.istore_n 3, 1) := by decide +kernel
theorem dX11_father_23 : decode cX11_father 23 = .ok (.iconst (-1), 1) := by decide +kernel
theorem dX11_father_24 : decode cX11_father 24 = .ok (.istore 4, 2) := by decide +kernel
theorem dX11_father_26 : decode cX11_father 26 = .ok (.bipush 99, 2) := by decide +kernel
theorem dX11_father_28 : decode cX11_father 28 = .ok (.istore 5, 2) := by decide +kernel
theorem dX11_father_30 : decode cX11_father 30 = .ok (.iconst 0, 1) := by decide +kernel
theorem dX11_father_31 : decode cX11_father 31 = .ok (.istore 6, 2) := by decide +kernel
theorem dX11_father_33 : decode cX11_father 33 = .ok (.iload 6, 2) := by decide +kernel
theorem dX11_father_35 : decode cX11_father 35 = .ok (.aload_n 0, 1) := by decide +kernel
theorem dX11_father_36 : decode cX11_father 36 = .ok (.getfield 26, 3) := by decide +kernel
theorem dX11_father_39 : decode cX11_father 39 = .ok (.getfield 127, 3) := by decide +kernel
theorem dX11_father_42 : decode cX11_father 42 = .ok (.if_icmp .ge 62, 3) := by decide +kernel
theorem dX11_father_45 : decode cX11_father 45 = .ok (.aload_n 0, 1) := by decide +kernel
theorem dX11_father_46 : decode cX11_father 46 = .ok (.getfield 26, 3) := by decide +kernel
theorem dX11_father_49 : decode cX11_father 49 = .ok (.aload_n 0, 1) := by decide +kernel
theorem dX11_father_50 : decode cX11_father 50 = .ok (.getfield 33, 3) := by decide +kernel
theorem dX11_father_53 : decode cX11_father 53 = .ok (.getfield 197, 3) := by decide +kernel
theorem dX11_father_56 : decode cX11_father 56 = .ok (.iload_n 1, 1) := by decide +kernel
theorem dX11_father_57 : decode cX11_father 57 = .ok (.iaload, 1) := by decide +kernel
theorem dX11_father_58 : decode cX11_father 58 = .ok (.aload_n 0, 1) := by decide +kernel
theorem dX11_father_59 : decode cX11_father 59 = .ok (.getfield 64, 3) := by decide +kernel
theorem dX11_father_62 : decode cX11_father 62 = .ok (.iload 6, 2) := by decide +kernel
theorem dX11_father_64 : decode cX11_father 64 = .ok (.iload_n 2, 1) := by decide +kernel
theorem dX11_father_65 : decode cX11_father 65 = .ok (.invokevirtual 216, 3) := by decide +kernel
theorem dX11_father_68 : decode cX11_father 68 = .ok (.invokevirtual 244, 3) := by decide +kernel
theorem dX11_father_71 : decode cX11_father 71 = .ok (.istore 7, 2) := by decide +kernel
theorem dX11_father_73 : decode cX11_father 73 = .ok (.iload_n 3, 1) := by decide +kernel
theorem dX11_father_74 : decode cX11_father 74 = .ok (.iload 6, 2) := by decide +kernel
theorem dX11_father_76 : decode cX11_father 76 = .ok (.ishr, 1) := by decide +kernel
theorem dX11_father_77 : decode cX11_father 77 = .ok (.iconst 1, 1) := by decide +kernel
theorem dX11_father_78 : decode cX11_father 78 = .ok (.iand, 1) := by decide +kernel
theorem dX11_father_79 : decode cX11_father 79 = .ok (.iconst 1, 1) := by decide +kernel
theorem dX11_father_80 : decode cX11_father 80 = .ok (.if_icmp .ne 18, 3) := by decide +kernel
theorem dX11_father_83 : decode cX11_father 83 = .ok (.iload 7, 2) := by decide +kernel
theorem dX11_father_85 : decode cX11_father 85 = .ok (.iload 5, 2) := by decide +kernel
theorem dX11_father_87 : decode cX11_father 87 = .ok (.if_icmp .ge 11, 3) := by decide +kernel
theorem dX11_father_90 : decode cX11_father 90 = .ok (.iload 7, 2) := by decide +kernel
theorem dX11_father_92 : decode cX11_father 92 = .ok (.istore 5, 2) := by decide +kernel
theorem dX11_father_94 : decode cX11_father 94 = .ok (.iload 6, 2) := by decide +kernel
theorem dX11_father_96 : decode cX11_father 96 = .ok (.istore 4, 2) := by decide +kernel
theorem dX11_father_98 : decode cX11_father 98 = .ok (.iinc 6 1, 3) := by decide +kernel
theorem dX11_father_101 : decode cX11_father 101 = .ok (.goto (-68), 3) := by decide +kernel
theorem dX11_father_104 : decode cX11_father 104 = .ok (.iload 4, 2) := by decide +kernel
theorem dX11_father_106 : decode cX11_father 106 = .ok (.ireturn, 1) := by decide +kernel
theorem dX11_journey_0 : decode cX11_journey 0 = .ok (.aload_n 0, 1) := by decide +kernel
theorem dX11_journey_1 : decode cX11_journey 1 = .ok (.iload_n 1, 1) := by decide +kernel
theorem dX11_journey_2 : decode cX11_journey 2 = .ok (.invokevirtual 166, 3) := by decide +kernel
theorem dX11_journey_5 : decode cX11_journey 5 = .ok (.iload_n 2, 1) := by decide +kernel
theorem dX11_journey_6 : decode cX11_journey 6 = .ok (.iconst 3, 1) := by decide +kernel
theorem dX11_journey_7 : decode cX11_journey 7 = .ok (.invokestatic 193, 3) := by decide +kernel
theorem dX11_journey_10 : decode cX11_journey 10 = .ok (.aload_n 0, 1) := by decide +kernel
theorem dX11_journey_11 : decode cX11_journey 11 = .ok (.invokevirtual 203, 3) := by decide +kernel
theorem dX11_journey_14 : decode cX11_journey 14 = .ok (.iload_n 2, 1) := by decide +kernel
theorem dX11_journey_15 : decode cX11_journey 15 = .ok (.ifCond .ne 12, 3) := by decide +kernel
theorem dX11_journey_18 : decode cX11_journey 18 = .ok (.aload_n 0, 1) := by decide +kernel
theorem dX11_journey_19 : decode cX11_journey 19 = .ok (.getfield 64, 3) := by decide +kernel
theorem dX11_journey_22 : decode cX11_journey 22 = .ok (.iload_n 1, 1) := by decide +kernel
theorem dX11_journey_23 : decode cX11_journey 23 = .ok (.invokevirtual 351, 3) := by decide +kernel
theorem dX11_journey_26 : decode cX11_journey 26 = .ok (.ireturn, 1) := by decide +kernel
theorem dX11_journey_27 : decode cX11_journey 27 = .ok (.iload_n 2, 1) := by decide +kernel
theorem dX11_journey_28 : decode cX11_journey 28 = .ok (.iconst 1, 1) := by decide +kernel
theorem dX11_journey_29 : decode cX11_journey 29 = .ok (.if_icmp .ne 18, 3) := by decide +kernel
theorem dX11_journey_32 : decode cX11_journey 32 = .ok (.aload_n 0, 1) := by decide +kernel
theorem dX11_journey_33 : decode cX11_journey 33 = .ok (.getfield 64, 3) := by decide +kernel
theorem dX11_journey_36 : decode cX11_journey 36 = .ok (.aload_n 0, 1) := by decide +kernel
theorem dX11_journey_37 : decode cX11_journey 37 = .ok (.getfield 26, 3) := by decide +kernel
theorem dX11_journey_40 : decode cX11_journey 40 = .ok (.iload_n 1, 1) := by decide +kernel
theorem dX11_journey_41 : decode cX11_journey 41 = .ok (.invokevirtual 354, 3) := by decide +kernel
theorem dX11_journey_44 : decode cX11_journey 44 = .ok (.goto 18, 3) := by decide +kernel
theorem dX11_journey_47 : decode cX11_journey 47 = .ok (.aload_n 0, 1) := by decide +kernel
theorem dX11_journey_48 : decode cX11_journey 48 = .ok (.getfield 64, 3) := by decide +kernel
theorem dX11_journey_51 : decode cX11_journey 51 = .ok (.aload_n 0, 1) := by decide +kernel
theorem dX11_journey_52 : decode cX11_journey 52 = .ok (.getfield 26, 3) := by decide +kernel
theorem dX11_journey_55 : decode cX11_journey 55 = .ok (.getfield 130, 3) := by decide +kernel
theorem dX11_journey_58 : decode cX11_journey 58 = .ok (.iload_n 1, 1) := by decide +kernel
theorem dX11_journey_59 : decode cX11_journey 59 = .ok (.invokevirtual 358, 3) := by decide +kernel
theorem dX11_journey_62 : decode cX11_journey 62 = .ok (.ireturn, 1) := by decide +kernel
theorem dX11_brightest_0 : decode cX11_brightest 0 = .ok (.aload_n 0, 1) := by decide +kernel
theorem dX11_brightest_1 : decode cX11_brightest 1 = .ok (.invokevirtual 203, 3) := by decide +kernel
theorem dX11_brightest_4 : decode cX11_brightest 4 = .ok (.iconst (-1), 1) := by decide +kernel
theorem dX11_brightest_5 : decode cX11_brightest 5 = .ok (.istore_n 1, 1) := by decide +kernel
theorem dX11_brightest_6 : decode cX11_brightest 6 = .ok (.iconst (-1), 1) := by decide +kernel
theorem dX11_brightest_7 : decode cX11_brightest 7 = .ok (.istore_n 2, 1) := by decide +kernel
theorem dX11_brightest_8 : decode cX11_brightest 8 = .ok (.iconst 0, 1) := by decide +kernel
theorem dX11_brightest_9 : decode cX11_brightest 9 = .ok (.istore_n 3, 1) := by decide +kernel
theorem dX11_brightest_10 : decode cX11_brightest 10 = .ok (.iload_n 3, 1) := by decide +kernel
theorem dX11_brightest_11 : decode cX11_brightest 11 = .ok (.aload_n 0, 1) := by decide +kernel
theorem dX11_brightest_12 : decode cX11_brightest 12 = .ok (.getfield 26, 3) := by decide +kernel
theorem dX11_brightest_15 : decode cX11_brightest 15 = .ok (.getfield 127, 3) := by decide +kernel
theorem dX11_brightest_18 : decode cX11_brightest 18 = .ok (.if_icmp .ge 37, 3) := by decide +kernel
theorem dX11_brightest_21 : decode cX11_brightest 21 = .ok (.aload_n 0, 1) := by decide +kernel
theorem dX11_brightest_22 : decode cX11_brightest 22 = .ok (.getfield 64, 3) := by decide +kernel
theorem dX11_brightest_25 : decode cX11_brightest 25 = .ok (.aload_n 0, 1) := by decide +kernel
theorem dX11_brightest_26 : decode cX11_brightest 26 = .ok (.getfield 26, 3) := by decide +kernel
theorem dX11_brightest_29 : decode cX11_brightest 29 = .ok (.getfield 130, 3) := by decide +kernel
theorem dX11_brightest_32 : decode cX11_brightest 32 = .ok (.iload_n 3, 1) := by decide +kernel
theorem dX11_brightest_33 : decode cX11_brightest 33 = .ok (.invokevirtual 358, 3) := by decide +kernel
theorem dX11_brightest_36 : decode cX11_brightest 36 = .ok (.istore 4, 2) := by decide +kernel
theorem dX11_brightest_38 : decode cX11_brightest 38 = .ok (.iload 4, 2) := by decide +kernel
theorem dX11_brightest_40 : decode cX11_brightest 40 = .ok (.iload_n 2, 1) := by decide +kernel
theorem dX11_brightest_41 : decode cX11_brightest 41 = .ok (.if_icmp .le 8, 3) := by decide +kernel
theorem dX11_brightest_44 : decode cX11_brightest 44 = .ok (.iload 4, 2) := by decide +kernel
theorem dX11_brightest_46 : decode cX11_brightest 46 = .ok (.istore_n 2, 1) := by decide +kernel
theorem dX11_brightest_47 : decode cX11_brightest 47 = .ok (.iload_n 3, 1) := by decide +kernel
theorem dX11_brightest_48 : decode cX11_brightest 48 = .ok (.istore_n 1, 1) := by decide +kernel
theorem dX11_brightest_49 : decode cX11_brightest 49 = .ok (.iinc 3 1, 3) := by decide +kernel
theorem dX11_brightest_52 : decode cX11_brightest 52 = .ok (.goto (-42), 3) := by decide +kernel
theorem dX11_brightest_55 : decode cX11_brightest 55 = .ok (.iload_n 1, 1) := by decide +kernel
theorem dX11_brightest_56 : decode cX11_brightest 56 = .ok (.ireturn, 1) := by decide +kernel
theorem dX11_sparing_0 : decode cX11_sparing 0 = .ok (.aload_n 0, 1) := by decide +kernel
theorem dX11_sparing_1 : decode cX11_sparing 1 = .ok (.iload_n 1, 1) := by decide +kernel
theorem dX11_sparing_2 : decode cX11_sparing 2 = .ok (.invokevirtual 166, 3) := by decide +kernel
theorem dX11_sparing_5 : decode cX11_sparing 5 = .ok (.aload_n 0, 1) := by decide +kernel
theorem dX11_sparing_6 : decode cX11_sparing 6 = .ok (.invokevirtual 203, 3) := by decide +kernel
theorem dX11_sparing_9 : decode cX11_sparing 9 = .ok (.aload_n 0, 1) := by decide +kernel
theorem dX11_sparing_10 : decode cX11_sparing 10 = .ok (.getfield 64, 3) := by decide +kernel
theorem dX11_sparing_13 : decode cX11_sparing 13 = .ok (.aload_n 0, 1) := by decide +kernel
theorem dX11_sparing_14 : decode cX11_sparing 14 = .ok (.getfield 26, 3) := by decide +kernel
theorem dX11_sparing_17 : decode cX11_sparing 17 = .ok (.getfield 130, 3) := by decide +kernel
theorem dX11_sparing_20 : decode cX11_sparing 20 = .ok (.invokevirtual 361, 3) := by decide +kernel
theorem dX11_sparing_23 : decode cX11_sparing 23 = .ok (.istore_n 2, 1) := by decide +kernel
theorem dX11_sparing_24 : decode cX11_sparing 24 = .ok (.aload_n 0, 1) := by decide +kernel
theorem dX11_sparing_25 : decode cX11_sparing 25 = .ok (.getfield 33, 3) := by decide +kernel
theorem dX11_sparing_28 : decode cX11_sparing 28 = .ok (.getfield 175, 3) := by decide +kernel
theorem dX11_sparing_31 : decode cX11_sparing 31 = .ok (.iload_n 1, 1) := by decide +kernel
theorem dX11_sparing_32 : decode cX11_sparing 32 = .ok (.iaload, 1) := by decide +kernel
theorem dX11_sparing_33 : decode cX11_sparing 33 = .ok (.istore_n 3, 1) := by decide +kernel
theorem dX11_sparing_34 : decode cX11_sparing 34 = .ok (.aload_n 0, 1) := by decide +kernel
theorem dX11_sparing_35 : decode cX11_sparing 35 = .ok (.getfield 71, 3) := by decide +kernel
theorem dX11_sparing_38 : decode cX11_sparing 38 = .ok (.aload_n 0, 1) := by decide +kernel
theorem dX11_sparing_39 : decode cX11_sparing 39 = .ok (.getfield 33, 3) := by decide +kernel
theorem dX11_sparing_42 : decode cX11_sparing 42 = .ok (.invokevirtual 322, 3) := by decide +kernel
theorem dX11_sparing_45 : decode cX11_sparing 45 = .ok (.aload_n 0, 1) := by decide +kernel
theorem dX11_sparing_46 : decode cX11_sparing 46 = .ok (.getfield 74, 3) := by decide +kernel
theorem dX11_sparing_49 : decode cX11_sparing 49 = .ok (.aload_n 0, 1) := by decide +kernel
theorem dX11_sparing_50 : decode cX11_sparing 50 = .ok (.getfield 26, 3) := by decide +kernel
theorem dX11_sparing_53 : decode cX11_sparing 53 = .ok (.aload_n 0, 1) := by decide +kernel
theorem dX11_sparing_54 : decode cX11_sparing 54 = .ok (.getfield 33, 3) := by decide +kernel
theorem dX11_sparing_57 : decode cX11_sparing 57 = .ok (.aload_n 0, 1) := by decide +kernel
theorem dX11_sparing_58 : decode cX11_sparing 58 = .ok (.getfield 33, 3) := by decide +kernel
theorem dX11_sparing_61 : decode cX11_sparing 61 = .ok (.getfield 142, 3) := by decide +kernel
theorem dX11_sparing_64 : decode cX11_sparing 64 = .ok (.invokevirtual 364, 3) := by decide +kernel
theorem dX11_sparing_67 : decode cX11_sparing 67 = .ok (.iconst 0, 1) := by decide +kernel
theorem dX11_sparing_68 : decode cX11_sparing 68 = .ok (.istore 4, 2) := by decide +kernel
theorem dX11_sparing_70 : decode cX11_sparing 70 = .ok (.iload 4, 2) := by decide +kernel
theorem dX11_sparing_72 : decode cX11_sparing 72 = .ok (.iload_n 3, 1) := by decide +kernel
theorem dX11_sparing_73 : decode cX11_sparing 73 = .ok (.if_icmp .ge 117, 3) := by decide +kernel
theorem dX11_sparing_76 : decode cX11_sparing 76 = .ok (.aload_n 0, 1) := by decide +kernel
theorem dX11_sparing_77 : decode cX11_sparing 77 = .ok (.getfield 71, 3) := by decide +kernel
theorem dX11_sparing_80 : decode cX11_sparing 80 = .ok (.getfield 175, 3) := by decide +kernel
theorem dX11_sparing_83 : decode cX11_sparing 83 = .ok (.iload_n 1, 1) := by decide +kernel
theorem dX11_sparing_84 : decode cX11_sparing 84 = .ok (.iload 4, 2) := by decide +kernel
theorem dX11_sparing_86 : decode cX11_sparing 86 = .ok (.iastore, 1) := by decide +kernel
theorem dX11_sparing_87 : decode cX11_sparing 87 = .ok (.aload_n 0, 1) := by decide +kernel
theorem dX11_sparing_88 : decode cX11_sparing 88 = .ok (.getfield 74, 3) := by decide +kernel
theorem dX11_sparing_91 : decode cX11_sparing 91 = .ok (.aload_n 0, 1) := by decide +kernel
theorem dX11_sparing_92 : decode cX11_sparing 92 = .ok (.getfield 26, 3) := by decide +kernel
theorem dX11_sparing_95 : decode cX11_sparing 95 = .ok (.iload_n 1, 1) := by decide +kernel
theorem dX11_sparing_96 : decode cX11_sparing 96 = .ok (.iload 4, 2) := by decide +kernel
theorem dX11_sparing_98 : decode cX11_sparing 98 = .ok (.aload_n 0, 1) := by decide +kernel
theorem dX11_sparing_99 : decode cX11_sparing 99 = .ok (.getfield 33, 3) := by decide +kernel
theorem dX11_sparing_102 : decode cX11_sparing 102 = .ok (.getfield 142, 3) := by decide +kernel
theorem dX11_sparing_105 : decode cX11_sparing 105 = .ok (.invokevirtual 368, 3) := by decide +kernel
theorem dX11_sparing_108 : decode cX11_sparing 108 = .ok (.aload_n 0, 1) := by decide +kernel
theorem dX11_sparing_109 : decode cX11_sparing 109 = .ok (.getfield 74, 3) := by decide +kernel
theorem dX11_sparing_112 : decode cX11_sparing 112 = .ok (.aload_n 0, 1) := by decide +kernel
theorem dX11_sparing_113 : decode cX11_sparing 113 = .ok (.getfield 26, 3) := by decide +kernel
theorem dX11_sparing_116 : decode cX11_sparing 116 = .ok (.getfield 127, 3) := by decide +kernel
theorem dX11_sparing_119 : decode cX11_sparing 119 = .ok (.invokevirtual 372, 3) := by decide +kernel
theorem dX11_sparing_122 : decode cX11_sparing 122 = .ok (.aload_n 0, 1) := by decide +kernel
theorem dX11_sparing_123 : decode cX11_sparing 123 = .ok (.getfield 77, 3) := by decide +kernel
theorem dX11_sparing_126 : decode cX11_sparing 126 = .ok (.aload_n 0, 1) := by decide +kernel
theorem dX11_sparing_127 : decode cX11_sparing 127 = .ok (.getfield 26, 3) := by decide +kernel
theorem dX11_sparing_130 : decode cX11_sparing 130 = .ok (.aload_n 0, 1) := by decide +kernel
theorem dX11_sparing_131 : decode cX11_sparing 131 = .ok (.getfield 71, 3) := by decide +kernel
theorem dX11_sparing_134 : decode cX11_sparing 134 = .ok (.aload_n 0, 1) := by decide +kernel
theorem dX11_sparing_135 : decode cX11_sparing 135 = .ok (.getfield 74, 3) := by decide +kernel
theorem dX11_sparing_138 : decode cX11_sparing 138 = .ok (.sipush 240, 3) := by decide +kernel
theorem dX11_sparing_141 : decode cX11_sparing 141 = .ok (.invokevirtual 375, 3) := by decide +kernel
theorem dX11_sparing_144 : decode cX11_sparing 144 = .ok (.aload_n 0, 1) := by decide +kernel
theorem dX11_sparing_145 : decode cX11_sparing 145 = .ok (.getfield 77, 3) := by decide +kernel
theorem dX11_sparing_148 : decode cX11_sparing 148 = .ok (.aload_n 0, 1) := by decide +kernel
theorem dX11_sparing_149 : decode cX11_sparing 149 = .ok (.getfield 26, 3) := by decide +kernel
theorem dX11_sparing_152 : decode cX11_sparing 152 = .ok (.aload_n 0, 1) := by decide +kernel
theorem dX11_sparing_153 : decode cX11_sparing 153 = .ok (.getfield 71, 3) := by decide +kernel
theorem dX11_sparing_156 : decode cX11_sparing 156 = .ok (.aload_n 0, 1) := by decide +kernel
theorem dX11_sparing_157 : decode cX11_sparing 157 = .ok (.getfield 51, 3) := by decide +kernel
theorem dX11_sparing_160 : decode cX11_sparing 160 = .ok (.invokevirtual 379, 3) := by decide +kernel
theorem dX11_sparing_163 : decode cX11_sparing 163 = .ok (.aload_n 0, 1) := by decide +kernel
theorem dX11_sparing_164 : decode cX11_sparing 164 = .ok (.getfield 77, 3) := by decide +kernel
theorem dX11_sparing_167 : decode cX11_sparing 167 = .ok (.aload_n 0, 1) := by decide +kernel
theorem dX11_sparing_168 : decode cX11_sparing 168 = .ok (.getfield 26, 3) := by decide +kernel
theorem dX11_sparing_171 : decode cX11_sparing 171 = .ok (.getfield 130, 3) := by decide +kernel
theorem dX11_sparing_174 : decode cX11_sparing 174 = .ok (.invokevirtual 361, 3) := by decide +kernel
theorem dX11_sparing_177 : decode cX11_sparing 177 = .ok (.iload_n 2, 1) := by decide +kernel
theorem dX11_sparing_178 : decode cX11_sparing 178 = .ok (.if_icmp .lt 6, 3) := by decide +kernel
theorem dX11_sparing_181 : decode cX11_sparing 181 = .ok (.iload 4, 2) := by decide +kernel
theorem dX11_sparing_183 : decode cX11_sparing 183 = .ok (.ireturn, 1) := by decide +kernel
theorem dX11_sparing_184 : decode cX11_sparing 184 = .ok (.iinc 4 1, 3) := by decide +kernel
theorem dX11_sparing_187 : decode cX11_sparing 187 = .ok (.goto (-117), 3) := by decide +kernel
theorem dX11_sparing_190 : decode cX11_sparing 190 = .ok (.iload_n 3, 1) := by decide +kernel
theorem dX11_sparing_191 : decode cX11_sparing 191 = .ok (.ireturn, 1) := by decide +kernel
theorem dX11_start_0 : decode cX11_start 0 = .ok (.aload_n 0, 1) := by decide +kernel
theorem dX11_start_1 : decode cX11_start 1 = .ok (.iload_n 1, 1) := by decide +kernel
theorem dX11_start_2 : decode cX11_start 2 = .ok (.invokevirtual 166, 3) := by decide +kernel
theorem dX11_start_5 : decode cX11_start 5 = .ok (.iload_n 2, 1) := by decide +kernel
theorem dX11_start_6 : decode cX11_start 6 = .ok (.iconst 2, 1) := by decide +kernel
theorem dX11_start_7 : decode cX11_start 7 = .ok (.invokestatic 193, 3) := by decide +kernel
theorem dX11_start_10 : decode cX11_start 10 = .ok (.aload_n 0, 1) := by decide +kernel
theorem dX11_start_11 : decode cX11_start 11 = .ok (.invokevirtual 203, 3) := by decide +kernel
theorem dX11_start_14 : decode cX11_start 14 = .ok (.aload_n 0, 1) := by decide +kernel
theorem dX11_start_15 : decode cX11_start 15 = .ok (.getfield 71, 3) := by decide +kernel
theorem dX11_start_18 : decode cX11_start 18 = .ok (.aload_n 0, 1) := by decide +kernel
theorem dX11_start_19 : decode cX11_start 19 = .ok (.getfield 33, 3) := by decide +kernel
theorem dX11_start_22 : decode cX11_start 22 = .ok (.invokevirtual 322, 3) := by decide +kernel
theorem dX11_start_25 : decode cX11_start 25 = .ok (.iconst (-1), 1) := by decide +kernel
theorem dX11_start_26 : decode cX11_start 26 = .ok (.istore_n 3, 1) := by decide +kernel
theorem dX11_start_27 : decode cX11_start 27 = .ok (.iconst (-1), 1) := by decide +kernel
theorem dX11_start_28 : decode cX11_start 28 = .ok (.istore 4, 2) := by decide +kernel
theorem dX11_start_30 : decode cX11_start 30 = .ok (.aload_n 0, 1) := by decide +kernel
theorem dX11_start_31 : decode cX11_start 31 = .ok (.getfield 26, 3) := by decide +kernel
theorem dX11_start_34 : decode cX11_start 34 = .ok (.invokevirtual 308, 3) := by decide +kernel
theorem dX11_start_37 : decode cX11_start 37 = .ok (.istore 5, 2) := by decide +kernel
theorem dX11_start_39 : decode cX11_start 39 = .ok (.iconst 0, 1) := by decide +kernel
theorem dX11_start_40 : decode cX11_start 40 = .ok (.istore 6, 2) := by decide +kernel
theorem dX11_start_42 : decode cX11_start 42 = .ok (.iload 6, 2) := by decide +kernel
theorem dX11_start_44 : decode cX11_start 44 = .ok (.iload 5, 2) := by decide +kernel
theorem dX11_start_46 : decode cX11_start 46 = .ok (.if_icmp .ge 60, 3) := by decide +kernel
theorem dX11_start_49 : decode cX11_start 49 = .ok (.aload_n 0, 1) := by decide +kernel
theorem dX11_start_50 : decode cX11_start 50 = .ok (.aload_n 0, 1) := by decide +kernel
theorem dX11_start_51 : decode cX11_start 51 = .ok (.getfield 33, 3) := by decide +kernel
theorem dX11_start_54 : decode cX11_start 54 = .ok (.iload_n 1, 1) := by decide +kernel
theorem dX11_start_55 : decode cX11_start 55 = .ok (.iload 6, 2) := by decide +kernel
theorem dX11_start_57 : decode cX11_start 57 = .ok (.invokevirtual 257, 3) := by decide +kernel
theorem dX11_start_60 : decode cX11_start 60 = .ok (.ifCond .eq 40, 3) := by decide +kernel
theorem dX11_start_63 : decode cX11_start 63 = .ok (.aload_n 0, 1) := by decide +kernel
theorem dX11_start_64 : decode cX11_start 64 = .ok (.iload_n 1, 1) := by decide +kernel
theorem dX11_start_65 : decode cX11_start 65 = .ok (.iload 6, 2) := by decide +kernel
theorem dX11_start_67 : decode cX11_start 67 = .ok (.invokevirtual 326, 3) := by decide +kernel
theorem dX11_start_70 : decode cX11_start 70 = .ok (.aload_n 0, 1) := by decide +kernel
theorem dX11_start_71 : decode cX11_start 71 = .ok (.getfield 77, 3) := by decide +kernel
theorem dX11_start_74 : decode cX11_start 74 = .ok (.aload_n 0, 1) := by decide +kernel
theorem dX11_start_75 : decode cX11_start 75 = .ok (.getfield 26, 3) := by decide +kernel
theorem dX11_start_78 : decode cX11_start 78 = .ok (.getfield 130, 3) := by decide +kernel
theorem dX11_start_81 : decode cX11_start 81 = .ok (.invokevirtual 361, 3) := by decide +kernel
theorem dX11_start_84 : decode cX11_start 84 = .ok (.istore 7, 2) := by decide +kernel
theorem dX11_start_86 : decode cX11_start 86 = .ok (.iload 7, 2) := by decide +kernel
theorem dX11_start_88 : decode cX11_start 88 = .ok (.iload 4, 2) := by decide +kernel
theorem dX11_start_90 : decode cX11_start 90 = .ok (.if_icmp .le 10, 3) := by decide +kernel
theorem dX11_start_93 : decode cX11_start 93 = .ok (.iload 7, 2) := by decide +kernel
theorem dX11_start_95 : decode cX11_start 95 = .ok (.istore 4, 2) := by decide +kernel
theorem dX11_start_97 : decode cX11_start 97 = .ok (.iload 6, 2) := by decide +kernel
theorem dX11_start_99 : decode cX11_start 99 = .ok (.istore_n 3, 1) := by decide +kernel
theorem dX11_start_100 : decode cX11_start 100 = .ok (.iinc 6 1, 3) := by decide +kernel
theorem dX11_start_103 : decode cX11_start 103 = .ok (.goto (-61), 3) := by decide +kernel
theorem dX11_start_106 : decode cX11_start 106 = .ok (.iload_n 2, 1) := by decide +kernel
theorem dX11_start_107 : decode cX11_start 107 = .ok (.ifCond .ne 7, 3) := by decide +kernel
theorem dX11_start_110 : decode cX11_start 110 = .ok (.iload_n 3, 1) := by decide +kernel
theorem dX11_start_111 : decode cX11_start 111 = .ok (.goto 5, 3) := by decide +kernel
theorem dX11_start_114 : decode cX11_start 114 = .ok (.iload 4, 2) := by decide +kernel
theorem dX11_start_116 : decode cX11_start 116 = .ok (.ireturn, 1) := by decide +kernel
theorem dX11_alone_0 : decode cX11_alone 0 = .ok (.iload_n 1, 1) := by decide +kernel
theorem dX11_alone_1 : decode cX11_alone 1 = .ok (.invokestatic 230, 3) := by decide +kernel
theorem dX11_alone_4 : decode cX11_alone 4 = .ok (.aload_n 0, 1) := by decide +kernel
theorem dX11_alone_5 : decode cX11_alone 5 = .ok (.invokevirtual 203, 3) := by decide +kernel
theorem dX11_alone_8 : decode cX11_alone 8 = .ok (.iconst 0, 1) := by decide +kernel
theorem dX11_alone_9 : decode cX11_alone 9 = .ok (.istore_n 2, 1) := by decide +kernel
theorem dX11_alone_10 : decode cX11_alone 10 = .ok (.iconst 0, 1) := by decide +kernel
theorem dX11_alone_11 : decode cX11_alone 11 = .ok (.istore_n 3, 1) := by decide +kernel
theorem dX11_alone_12 : decode cX11_alone 12 = .ok (.iload_n 3, 1) := by decide +kernel
theorem dX11_alone_13 : decode cX11_alone 13 = .ok (.aload_n 0, 1) := by decide +kernel
theorem dX11_alone_14 : decode cX11_alone 14 = .ok (.getfield 26, 3) := by decide +kernel
theorem dX11_alone_17 : decode cX11_alone 17 = .ok (.getfield 130, 3) := by decide +kernel
theorem dX11_alone_20 : decode cX11_alone 20 = .ok (.if_icmp .ge 28, 3) := by decide +kernel
theorem dX11_alone_23 : decode cX11_alone 23 = .ok (.aload_n 0, 1) := by decide +kernel
theorem dX11_alone_24 : decode cX11_alone 24 = .ok (.getfield 64, 3) := by decide +kernel
theorem dX11_alone_27 : decode cX11_alone 27 = .ok (.iload_n 3, 1) := by decide +kernel
theorem dX11_alone_28 : decode cX11_alone 28 = .ok (.iload_n 1, 1) := by decide +kernel
theorem dX11_alone_29 : decode cX11_alone 29 = .ok (.invokevirtual 383, 3) := by decide +kernel
theorem dX11_alone_32 : decode cX11_alone 32 = .ok (.invokestatic 268, 3) := by decide +kernel
theorem dX11_alone_35 : decode cX11_alone 35 = .ok (.iconst 1, 1) := by decide +kernel
theorem dX11_alone_36 : decode cX11_alone 36 = .ok (.if_icmp .ne 6, 3) := by decide +kernel
theorem dX11_alone_39 : decode cX11_alone 39 = .ok (.iinc 2 1, 3) := by decide +kernel
theorem dX11_alone_42 : decode cX11_alone 42 = .ok (.iinc 3 1, 3) := by decide +kernel
theorem dX11_alone_45 : decode cX11_alone 45 = .ok (.goto (-33), 3) := by decide +kernel
theorem dX11_alone_48 : decode cX11_alone 48 = .ok (.iload_n 2, 1) := by decide +kernel
theorem dX11_alone_49 : decode cX11_alone 49 = .ok (.ireturn, 1) := by decide +kernel
theorem dX11_quarrels_0 : decode cX11_quarrels 0 = .ok (.aload_n 0, 1) := by decide +kernel
theorem dX11_quarrels_1 : decode cX11_quarrels 1 = .ok (.iload_n 1, 1) := by decide +kernel
theorem dX11_quarrels_2 : decode cX11_quarrels 2 = .ok (.invokevirtual 302, 3) := by decide +kernel
theorem dX11_quarrels_5 : decode cX11_quarrels 5 = .ok (.aload_n 0, 1) := by decide +kernel
theorem dX11_quarrels_6 : decode cX11_quarrels 6 = .ok (.getfield 74, 3) := by decide +kernel
theorem dX11_quarrels_9 : decode cX11_quarrels 9 = .ok (.aload_n 0, 1) := by decide +kernel
theorem dX11_quarrels_10 : decode cX11_quarrels 10 = .ok (.getfield 26, 3) := by decide +kernel
theorem dX11_quarrels_13 : decode cX11_quarrels 13 = .ok (.aload_n 0, 1) := by decide +kernel
theorem dX11_quarrels_14 : decode cX11_quarrels 14 = .ok (.getfield 33, 3) := by decide +kernel
theorem dX11_quarrels_17 : decode cX11_quarrels 17 = .ok (.iload_n 1, 1) := by decide +kernel
theorem dX11_quarrels_18 : decode cX11_quarrels 18 = .ok (.invokevirtual 364, 3) := by decide +kernel
theorem dX11_quarrels_21 : decode cX11_quarrels 21 = .ok (.aload_n 0, 1) := by decide +kernel
theorem dX11_quarrels_22 : decode cX11_quarrels 22 = .ok (.getfield 77, 3) := by decide +kernel
theorem dX11_quarrels_25 : decode cX11_quarrels 25 = .ok (.aload_n 0, 1) := by decide +kernel
theorem dX11_quarrels_26 : decode cX11_quarrels 26 = .ok (.getfield 26, 3) := by decide +kernel
theorem dX11_quarrels_29 : decode cX11_quarrels 29 = .ok (.aload_n 0, 1) := by decide +kernel
theorem dX11_quarrels_30 : decode cX11_quarrels 30 = .ok (.getfield 33, 3) := by decide +kernel
theorem dX11_quarrels_33 : decode cX11_quarrels 33 = .ok (.aload_n 0, 1) := by decide +kernel
theorem dX11_quarrels_34 : decode cX11_quarrels 34 = .ok (.getfield 74, 3) := by decide +kernel
theorem dX11_quarrels_37 : decode cX11_quarrels 37 = .ok (.sipush 240, 3) := by decide +kernel
theorem dX11_quarrels_40 : decode cX11_quarrels 40 = .ok (.invokevirtual 375, 3) := by decide +kernel
theorem dX11_quarrels_43 : decode cX11_quarrels 43 = .ok (.aload_n 0, 1) := by decide +kernel
theorem dX11_quarrels_44 : decode cX11_quarrels 44 = .ok (.getfield 77, 3) := by decide +kernel
theorem dX11_quarrels_47 : decode cX11_quarrels 47 = .ok (.getfield 386, 3) := by decide +kernel
theorem dX11_quarrels_50 : decode cX11_quarrels 50 = .ok (.ireturn, 1) := by decide +kernel
theorem dX11_image_0 : decode cX11_image 0 = .ok (.aload_n 0, 1) := by decide +kernel
theorem dX11_image_1 : decode cX11_image 1 = .ok (.getfield 44, 3) := by decide +kernel
theorem dX11_image_4 : decode cX11_image 4 = .ok (.aload_n 0, 1) := by decide +kernel
theorem dX11_image_5 : decode cX11_image 5 = .ok (.getfield 33, 3) := by decide +kernel
theorem dX11_image_8 : decode cX11_image 8 = .ok (.invokevirtual 322, 3) := by decide +kernel
theorem dX11_image_11 : decode cX11_image 11 = .ok (.aload_n 0, 1) := by decide +kernel
theorem dX11_image_12 : decode cX11_image 12 = .ok (.iconst 1, 1) := by decide +kernel
theorem dX11_image_13 : decode cX11_image 13 = .ok (.putfield 47, 3) := by decide +kernel
theorem dX11_image_16 : decode cX11_image 16 = .ok (.return_, 1) := by decide +kernel
theorem dX11_restore_0 : decode cX11_restore 0 = .ok (.aload_n 0, 1) := by decide +kernel
theorem dX11_restore_1 : decode cX11_restore 1 = .ok (.getfield 47, 3) := by decide +kernel
theorem dX11_restore_4 : decode cX11_restore 4 = .ok (.ifCond .ne 5, 3) := by decide +kernel
theorem dX11_restore_7 : decode cX11_restore 7 = .ok (.iconst 0, 1) := by decide +kernel
theorem dX11_restore_8 : decode cX11_restore 8 = .ok (.ireturn, 1) := by decide +kernel
theorem dX11_restore_9 : decode cX11_restore 9 = .ok (.aload_n 0, 1) := by decide +kernel
theorem dX11_restore_10 : decode cX11_restore 10 = .ok (.getfield 33, 3) := by decide +kernel
theorem dX11_restore_13 : decode cX11_restore 13 = .ok (.aload_n 0, 1) := by decide +kernel
theorem dX11_restore_14 : decode cX11_restore 14 = .ok (.getfield 44, 3) := by decide +kernel
theorem dX11_restore_17 : decode cX11_restore 17 = .ok (.invokevirtual 322, 3) := by decide +kernel
theorem dX11_restore_20 : decode cX11_restore 20 = .ok (.aload_n 0, 1) := by decide +kernel
theorem dX11_restore_21 : decode cX11_restore 21 = .ok (.iconst 0, 1) := by decide +kernel
theorem dX11_restore_22 : decode cX11_restore 22 = .ok (.putfield 68, 3) := by decide +kernel
theorem dX11_restore_25 : decode cX11_restore 25 = .ok (.iconst 1, 1) := by decide +kernel
theorem dX11_restore_26 : decode cX11_restore 26 = .ok (.ireturn, 1) := by decide +kernel
theorem dX11_needLight_0 : decode cX11_needLight 0 = .ok (.iload_n 1, 1) := by decide +kernel
theorem dX11_needLight_1 : decode cX11_needLight 1 = .ok (.ifCond .lt 14, 3) := by decide +kernel
theorem dX11_needLight_4 : decode cX11_needLight 4 = .ok (.iload_n 1, 1) := by decide +kernel
theorem dX11_needLight_5 : decode cX11_needLight 5 = .ok (.aload_n 0, 1) := by decide +kernel
theorem dX11_needLight_6 : decode cX11_needLight 6 = .ok (.getfield 26, 3) := by decide +kernel
theorem dX11_needLight_9 : decode cX11_needLight 9 = .ok (.getfield 127, 3) := by decide +kernel
theorem dX11_needLight_12 : decode cX11_needLight 12 = .ok (.if_icmp .lt 14, 3) := by decide +kernel
theorem dX11_needLight_15 : decode cX11_needLight 15 = .ok (.new 161, 3) := by decide +kernel
theorem dX11_needLight_18 : decode cX11_needLight 18 = .ok (.dup, 1) := by decide +kernel
theorem dX11_needLight_19 : decode cX11_needLight 19 = .ok (.ldc_w 389, 3) := by decide +kernel
theorem dX11_needLight_22 : decode cX11_needLight 22 = .ok (.invokespecial 165, 3) := by decide +kernel
theorem dX11_needLight_25 : decode cX11_needLight 25 = .ok (.athrow, 1) := by decide +kernel
theorem dX11_needLight_26 : decode cX11_needLight 26 = .ok (.return_, 1) := by decide +kernel
theorem dX11_needShip_0 : decode cX11_needShip 0 = .ok (.iload_n 1, 1) := by decide +kernel
theorem dX11_needShip_1 : decode cX11_needShip 1 = .ok (.ifCond .lt 14, 3) := by decide +kernel
theorem dX11_needShip_4 : decode cX11_needShip 4 = .ok (.iload_n 1, 1) := by decide +kernel
theorem dX11_needShip_5 : decode cX11_needShip 5 = .ok (.aload_n 0, 1) := by decide +kernel
theorem dX11_needShip_6 : decode cX11_needShip 6 = .ok (.getfield 26, 3) := by decide +kernel
theorem dX11_needShip_9 : decode cX11_needShip 9 = .ok (.getfield 130, 3) := by decide +kernel
theorem dX11_needShip_12 : decode cX11_needShip 12 = .ok (.if_icmp .lt 14, 3) := by decide +kernel
theorem dX11_needShip_15 : decode cX11_needShip 15 = .ok (.new 161, 3) := by decide +kernel
theorem dX11_needShip_18 : decode cX11_needShip 18 = .ok (.dup, 1) := by decide +kernel
theorem dX11_needShip_19 : decode cX11_needShip 19 = .ok (.ldc_w 391, 3) := by decide +kernel
theorem dX11_needShip_22 : decode cX11_needShip 22 = .ok (.invokespecial 165, 3) := by decide +kernel
theorem dX11_needShip_25 : decode cX11_needShip 25 = .ok (.athrow, 1) := by decide +kernel
theorem dX11_needShip_26 : decode cX11_needShip 26 = .ok (.return_, 1) := by decide +kernel
theorem dX11_needHour_0 : decode cX11_needHour 0 = .ok (.iload_n 0, 1) := by decide +kernel
theorem dX11_needHour_1 : decode cX11_needHour 1 = .ok (.ifCond .lt 10, 3) := by decide +kernel
theorem dX11_needHour_4 : decode cX11_needHour 4 = .ok (.iload_n 0, 1) := by decide +kernel
theorem dX11_needHour_5 : decode cX11_needHour 5 = .ok (.sipush 240, 3) := by decide +kernel
theorem dX11_needHour_8 : decode cX11_needHour 8 = .ok (.if_icmp .lt 14, 3) := by decide +kernel
theorem dX11_needHour_11 : decode cX11_needHour 11 = .ok (.new 161, 3) := by decide +kernel
theorem dX11_needHour_14 : decode cX11_needHour 14 = .ok (.dup, 1) := by decide +kernel
theorem dX11_needHour_15 : decode cX11_needHour 15 = .ok (.ldc_w 393, 3) := by decide +kernel
theorem dX11_needHour_18 : decode cX11_needHour 18 = .ok (.invokespecial 165, 3) := by decide +kernel
theorem dX11_needHour_21 : decode cX11_needHour 21 = .ok (.athrow, 1) := by decide +kernel
theorem dX11_needHour_22 : decode cX11_needHour 22 = .ok (.return_, 1) := by decide +kernel
theorem dX11_needNight_0 : decode cX11_needNight 0 = .ok (.iload_n 0, 1) := by decide +kernel
theorem dX11_needNight_1 : decode cX11_needNight 1 = .ok (.ifCond .lt 9, 3) := by decide +kernel
theorem dX11_needNight_4 : decode cX11_needNight 4 = .ok (.iload_n 0, 1) := by decide +kernel
theorem dX11_needNight_5 : decode cX11_needNight 5 = .ok (.bipush 10, 2) := by decide +kernel
theorem dX11_needNight_7 : decode cX11_needNight 7 = .ok (.if_icmp .lt 14, 3) := by decide +kernel
theorem dX11_needNight_10 : decode cX11_needNight 10 = .ok (.new 161, 3) := by decide +kernel
theorem dX11_needNight_13 : decode cX11_needNight 13 = .ok (.dup, 1) := by decide +kernel
theorem dX11_needNight_14 : decode cX11_needNight 14 = .ok (.ldc_w 395, 3) := by decide +kernel
theorem dX11_needNight_17 : decode cX11_needNight 17 = .ok (.invokespecial 165, 3) := by decide +kernel
theorem dX11_needNight_20 : decode cX11_needNight 20 = .ok (.athrow, 1) := by decide +kernel
theorem dX11_needNight_21 : decode cX11_needNight 21 = .ok (.return_, 1) := by decide +kernel
theorem dX11_needWhat_0 : decode cX11_needWhat 0 = .ok (.iload_n 0, 1) := by decide +kernel
theorem dX11_needWhat_1 : decode cX11_needWhat 1 = .ok (.ifCond .lt 8, 3) := by decide +kernel
theorem dX11_needWhat_4 : decode cX11_needWhat 4 = .ok (.iload_n 0, 1) := by decide +kernel
theorem dX11_needWhat_5 : decode cX11_needWhat 5 = .ok (.iload_n 1, 1) := by decide +kernel
theorem dX11_needWhat_6 : decode cX11_needWhat 6 = .ok (.if_icmp .lt 13, 3) := by decide +kernel
theorem dX11_needWhat_9 : decode cX11_needWhat 9 = .ok (.new 161, 3) := by decide +kernel
theorem dX11_needWhat_12 : decode cX11_needWhat 12 = .ok (.dup, 1) := by decide +kernel
theorem dX11_needWhat_13 : decode cX11_needWhat 13 = .ok (.ldc 163, 2) := by decide +kernel
theorem dX11_needWhat_15 : decode cX11_needWhat 15 = .ok (.invokespecial 165, 3) := by decide +kernel
theorem dX11_needWhat_18 : decode cX11_needWhat 18 = .ok (.athrow, 1) := by decide +kernel
theorem dX11_needWhat_19 : decode cX11_needWhat 19 = .ok (.return_, 1) := by decide +kernel
theorem dX11_needLawOrNone_0 : decode cX11_needLawOrNone 0 = .ok (.aload_n 0, 1) := by decide +kernel
theorem dX11_needLawOrNone_1 : decode cX11_needLawOrNone 1 = .ok (.iload_n 1, 1) := by decide +kernel
theorem dX11_needLawOrNone_2 : decode cX11_needLawOrNone 2 = .ok (.invokevirtual 261, 3) := by decide +kernel
theorem dX11_needLawOrNone_5 : decode cX11_needLawOrNone 5 = .ok (.ifCond .ne 14, 3) := by decide +kernel
theorem dX11_needLawOrNone_8 : decode cX11_needLawOrNone 8 = .ok (.new 161, 3) := by decide +kernel
theorem dX11_needLawOrNone_11 : decode cX11_needLawOrNone 11 = .ok (.dup, 1) := by decide +kernel
theorem dX11_needLawOrNone_12 : decode cX11_needLawOrNone 12 = .ok (.ldc_w 397, 3) := by decide +kernel
theorem dX11_needLawOrNone_15 : decode cX11_needLawOrNone 15 = .ok (.invokespecial 165, 3) := by decide +kernel
theorem dX11_needLawOrNone_18 : decode cX11_needLawOrNone 18 = .ok (.athrow, 1) := by decide +kernel
theorem dX11_needLawOrNone_19 : decode cX11_needLawOrNone 19 = .ok (.return_, 1) := by decide +kernel
theorem dX11_needTwo_0 : decode cX11_needTwo 0 = .ok (.iload_n 0, 1) := by decide +kernel
theorem dX11_needTwo_1 : decode cX11_needTwo 1 = .ok (.iload_n 1, 1) := by decide +kernel
theorem dX11_needTwo_2 : decode cX11_needTwo 2 = .ok (.if_icmp .ne 14, 3) := by decide +kernel
theorem dX11_needTwo_5 : decode cX11_needTwo 5 = .ok (.new 101, 3) := by decide +kernel
theorem dX11_needTwo_8 : decode cX11_needTwo 8 = .ok (.dup, 1) := by decide +kernel
theorem dX11_needTwo_9 : decode cX11_needTwo 9 = .ok (.ldc_w 399, 3) := by decide +kernel
theorem dX11_needTwo_12 : decode cX11_needTwo 12 = .ok (.invokespecial 105, 3) := by decide +kernel
theorem dX11_needTwo_15 : decode cX11_needTwo 15 = .ok (.athrow, 1) := by decide +kernel
theorem dX11_needTwo_16 : decode cX11_needTwo 16 = .ok (.return_, 1) := by decide +kernel
theorem dX11_feedBytes_0 : decode cX11_feedBytes 0 = .ok (.bipush 24, 2) := by decide +kernel
theorem dX11_feedBytes_2 : decode cX11_feedBytes 2 = .ok (.istore_n 2, 1) := by decide +kernel
theorem dX11_feedBytes_3 : decode cX11_feedBytes 3 = .ok (.iload_n 2, 1) := by decide +kernel
theorem dX11_feedBytes_4 : decode cX11_feedBytes 4 = .ok (.ifCond .lt 45, 3) := by decide +kernel
theorem dX11_feedBytes_7 : decode cX11_feedBytes 7 = .ok (.aload_n 0, 1) := by decide +kernel
theorem dX11_feedBytes_8 : decode cX11_feedBytes 8 = .ok (.getfield 13, 3) := by decide +kernel
theorem dX11_feedBytes_11 : decode cX11_feedBytes 11 = .ok (.sipush 700, 3) := by decide +kernel
theorem dX11_feedBytes_14 : decode cX11_feedBytes 14 = .ok (.if_icmp .ge 35, 3) := by decide +kernel
theorem dX11_feedBytes_17 : decode cX11_feedBytes 17 = .ok (.aload_n 0, 1) := by decide +kernel
theorem dX11_feedBytes_18 : decode cX11_feedBytes 18 = .ok (.getfield 9, 3) := by decide +kernel
theorem dX11_feedBytes_21 : decode cX11_feedBytes 21 = .ok (.aload_n 0, 1) := by decide +kernel
theorem dX11_feedBytes_22 : decode cX11_feedBytes 22 = .ok (.getfield 13, 3) := by decide +kernel
theorem dX11_feedBytes_25 : decode cX11_feedBytes 25 = .ok (.iload_n 1, 1) := by decide +kernel
theorem dX11_feedBytes_26 : decode cX11_feedBytes 26 = .ok (.iload_n 2, 1) := by decide +kernel
theorem dX11_feedBytes_27 : decode cX11_feedBytes 27 = .ok (.iushr, 1) := by decide +kernel
theorem dX11_feedBytes_28 : decode cX11_feedBytes 28 = .ok (.sipush 255, 3) := by decide +kernel
theorem dX11_feedBytes_31 : decode cX11_feedBytes 31 = .ok (.iand, 1) := by decide +kernel
theorem dX11_feedBytes_32 : decode cX11_feedBytes 32 = .ok (.iastore, 1) := by decide +kernel
theorem dX11_feedBytes_33 : decode cX11_feedBytes 33 = .ok (.aload_n 0, 1) := by decide +kernel
theorem dX11_feedBytes_34 : decode cX11_feedBytes 34 = .ok (.dup, 1) := by decide +kernel
theorem dX11_feedBytes_35 : decode cX11_feedBytes 35 = .ok (.getfield 13, 3) := by decide +kernel
theorem dX11_feedBytes_38 : decode cX11_feedBytes 38 = .ok (.iconst 1, 1) := by decide +kernel
theorem dX11_feedBytes_39 : decode cX11_feedBytes 39 = .ok (.iadd, 1) := by decide +kernel
theorem dX11_feedBytes_40 : decode cX11_feedBytes 40 = .ok (.putfield 13, 3) := by decide +kernel
theorem dX11_feedBytes_43 : decode cX11_feedBytes 43 = .ok (.iinc 2 (-8), 3) := by decide +kernel
theorem dX11_feedBytes_46 : decode cX11_feedBytes 46 = .ok (.goto (-43), 3) := by decide +kernel
theorem dX11_feedBytes_49 : decode cX11_feedBytes 49 = .ok (.return_, 1) := by decide +kernel
theorem dX11_takeWhatWasRead_0 : decode cX11_takeWhatWasRead 0 = .ok (.aload_n 0, 1) := by decide +kernel
theorem dX11_takeWhatWasRead_1 : decode cX11_takeWhatWasRead 1 = .ok (.getfield 26, 3) := by decide +kernel
theorem dX11_takeWhatWasRead_4 : decode cX11_takeWhatWasRead 4 = .ok (.astore_n 1, 1) := by decide +kernel
theorem dX11_takeWhatWasRead_5 : decode cX11_takeWhatWasRead 5 = .ok (.aload_n 0, 1) := by decide +kernel
theorem dX11_takeWhatWasRead_6 : decode cX11_takeWhatWasRead 6 = .ok (.getfield 33, 3) := by decide +kernel
theorem dX11_takeWhatWasRead_9 : decode cX11_takeWhatWasRead 9 = .ok (.astore_n 2, 1) := by decide +kernel
theorem dX11_takeWhatWasRead_10 : decode cX11_takeWhatWasRead 10 = .ok (.aload_n 0, 1) := by decide +kernel
theorem dX11_takeWhatWasRead_11 : decode cX11_takeWhatWasRead 11 = .ok (.aload_n 0, 1) := by decide +kernel
theorem dX11_takeWhatWasRead_12 : decode cX11_takeWhatWasRead 12 = .ok (.getfield 40, 3) := by decide +kernel
theorem dX11_takeWhatWasRead_15 : decode cX11_takeWhatWasRead 15 = .ok (.getfield 401, 3) := by decide +kernel
theorem dX11_takeWhatWasRead_18 : decode cX11_takeWhatWasRead 18 = .ok (.putfield 26, 3) := by decide +kernel
theorem dX11_takeWhatWasRead_21 : decode cX11_takeWhatWasRead 21 = .ok (.aload_n 0, 1) := by decide +kernel
theorem dX11_takeWhatWasRead_22 : decode cX11_takeWhatWasRead 22 = .ok (.aload_n 0, 1) := by decide +kernel
theorem dX11_takeWhatWasRead_23 : decode cX11_takeWhatWasRead 23 = .ok (.getfield 40, 3) := by decide +kernel
theorem dX11_takeWhatWasRead_26 : decode cX11_takeWhatWasRead 26 = .ok (.getfield 402, 3) := by decide +kernel
theorem dX11_takeWhatWasRead_29 : decode cX11_takeWhatWasRead 29 = .ok (.putfield 33, 3) := by decide +kernel
theorem dX11_takeWhatWasRead_32 : decode cX11_takeWhatWasRead 32 = .ok (.aload_n 0, 1) := by decide +kernel
theorem dX11_takeWhatWasRead_33 : decode cX11_takeWhatWasRead 33 = .ok (.getfield 40, 3) := by decide +kernel
theorem dX11_takeWhatWasRead_36 : decode cX11_takeWhatWasRead 36 = .ok (.aload_n 1, 1) := by decide +kernel
theorem dX11_takeWhatWasRead_37 : decode cX11_takeWhatWasRead 37 = .ok (.putfield 401, 3) := by decide +kernel
theorem dX11_takeWhatWasRead_40 : decode cX11_takeWhatWasRead 40 = .ok (.aload_n 0, 1) := by decide +kernel
theorem dX11_takeWhatWasRead_41 : decode cX11_takeWhatWasRead 41 = .ok (.getfield 40, 3) := by decide +kernel
theorem dX11_takeWhatWasRead_44 : decode cX11_takeWhatWasRead 44 = .ok (.aload_n 2, 1) := by decide +kernel
theorem dX11_takeWhatWasRead_45 : decode cX11_takeWhatWasRead 45 = .ok (.putfield 402, 3) := by decide +kernel
theorem dX11_takeWhatWasRead_48 : decode cX11_takeWhatWasRead 48 = .ok (.aload_n 0, 1) := by decide +kernel
theorem dX11_takeWhatWasRead_49 : decode cX11_takeWhatWasRead 49 = .ok (.iconst 0, 1) := by decide +kernel
theorem dX11_takeWhatWasRead_50 : decode cX11_takeWhatWasRead 50 = .ok (.putfield 47, 3) := by decide +kernel
theorem dX11_takeWhatWasRead_53 : decode cX11_takeWhatWasRead 53 = .ok (.aload_n 0, 1) := by decide +kernel
theorem dX11_takeWhatWasRead_54 : decode cX11_takeWhatWasRead 54 = .ok (.iconst 0, 1) := by decide +kernel
theorem dX11_takeWhatWasRead_55 : decode cX11_takeWhatWasRead 55 = .ok (.putfield 68, 3) := by decide +kernel
theorem dX11_takeWhatWasRead_58 : decode cX11_takeWhatWasRead 58 = .ok (.return_, 1) := by decide +kernel
theorem dX11_settle_0 : decode cX11_settle 0 = .ok (.aload_n 0, 1) := by decide +kernel
theorem dX11_settle_1 : decode cX11_settle 1 = .ok (.getfield 68, 3) := by decide +kernel
theorem dX11_settle_4 : decode cX11_settle 4 = .ok (.ifCond .eq 4, 3) := by decide +kernel
theorem dX11_settle_7 : decode cX11_settle 7 = .ok (.return_, 1) := by decide +kernel
theorem dX11_settle_8 : decode cX11_settle 8 = .ok (.aload_n 0, 1) := by decide +kernel
theorem dX11_settle_9 : decode cX11_settle 9 = .ok (.invokevirtual 403, 3) := by decide +kernel
theorem dX11_settle_12 : decode cX11_settle 12 = .ok (.aload_n 0, 1) := by decide +kernel
theorem dX11_settle_13 : decode cX11_settle 13 = .ok (.getfield 57, 3) := by decide +kernel
theorem dX11_settle_16 : decode cX11_settle 16 = .ok (.aload_n 0, 1) := by decide +kernel
theorem dX11_settle_17 : decode cX11_settle 17 = .ok (.getfield 26, 3) := by decide +kernel
theorem dX11_settle_20 : decode cX11_settle 20 = .ok (.aload_n 0, 1) := by decide +kernel
theorem dX11_settle_21 : decode cX11_settle 21 = .ok (.getfield 33, 3) := by decide +kernel
theorem dX11_settle_24 : decode cX11_settle 24 = .ok (.aload_n 0, 1) := by decide +kernel
theorem dX11_settle_25 : decode cX11_settle 25 = .ok (.getfield 33, 3) := by decide +kernel
theorem dX11_settle_28 : decode cX11_settle 28 = .ok (.getfield 142, 3) := by decide +kernel
theorem dX11_settle_31 : decode cX11_settle 31 = .ok (.invokevirtual 364, 3) := by decide +kernel
theorem dX11_settle_34 : decode cX11_settle 34 = .ok (.aload_n 0, 1) := by decide +kernel
theorem dX11_settle_35 : decode cX11_settle 35 = .ok (.getfield 64, 3) := by decide +kernel
theorem dX11_settle_38 : decode cX11_settle 38 = .ok (.aload_n 0, 1) := by decide +kernel
theorem dX11_settle_39 : decode cX11_settle 39 = .ok (.getfield 26, 3) := by decide +kernel
theorem dX11_settle_42 : decode cX11_settle 42 = .ok (.aload_n 0, 1) := by decide +kernel
theorem dX11_settle_43 : decode cX11_settle 43 = .ok (.getfield 33, 3) := by decide +kernel
theorem dX11_settle_46 : decode cX11_settle 46 = .ok (.aload_n 0, 1) := by decide +kernel
theorem dX11_settle_47 : decode cX11_settle 47 = .ok (.getfield 57, 3) := by decide +kernel
theorem dX11_settle_50 : decode cX11_settle 50 = .ok (.sipush 240, 3) := by decide +kernel
theorem dX11_settle_53 : decode cX11_settle 53 = .ok (.invokevirtual 375, 3) := by decide +kernel
theorem dX11_settle_56 : decode cX11_settle 56 = .ok (.aload_n 0, 1) := by decide +kernel
theorem dX11_settle_57 : decode cX11_settle 57 = .ok (.getfield 64, 3) := by decide +kernel
theorem dX11_settle_60 : decode cX11_settle 60 = .ok (.aload_n 0, 1) := by decide +kernel
theorem dX11_settle_61 : decode cX11_settle 61 = .ok (.getfield 26, 3) := by decide +kernel
theorem dX11_settle_64 : decode cX11_settle 64 = .ok (.aload_n 0, 1) := by decide +kernel
theorem dX11_settle_65 : decode cX11_settle 65 = .ok (.getfield 33, 3) := by decide +kernel
theorem dX11_settle_68 : decode cX11_settle 68 = .ok (.aload_n 0, 1) := by decide +kernel
theorem dX11_settle_69 : decode cX11_settle 69 = .ok (.getfield 51, 3) := by decide +kernel
theorem dX11_settle_72 : decode cX11_settle 72 = .ok (.invokevirtual 379, 3) := by decide +kernel
theorem dX11_settle_75 : decode cX11_settle 75 = .ok (.aload_n 0, 1) := by decide +kernel
theorem dX11_settle_76 : decode cX11_settle 76 = .ok (.iconst 1, 1) := by decide +kernel
theorem dX11_settle_77 : decode cX11_settle 77 = .ok (.putfield 68, 3) := by decide +kernel
theorem dX11_settle_80 : decode cX11_settle 80 = .ok (.return_, 1) := by decide +kernel
theorem dX11_measureViews_0 : decode cX11_measureViews 0 = .ok (.aload_n 0, 1) := by decide +kernel
theorem dX11_measureViews_1 : decode cX11_measureViews 1 = .ok (.getfield 26, 3) := by decide +kernel
theorem dX11_measureViews_4 : decode cX11_measureViews 4 = .ok (.invokevirtual 308, 3) := by decide +kernel
theorem dX11_measureViews_7 : decode cX11_measureViews 7 = .ok (.istore_n 1, 1) := by decide +kernel
theorem dX11_measureViews_8 : decode cX11_measureViews 8 = .ok (.iconst 0, 1) := by decide +kernel
theorem dX11_measureViews_9 : decode cX11_measureViews 9 = .ok (.istore_n 2, 1) := by decide +kernel
theorem dX11_measureViews_10 : decode cX11_measureViews 10 = .ok (.iload_n 2, 1) := by decide +kernel
theorem dX11_measureViews_11 : decode cX11_measureViews 11 = .ok (.aload_n 0, 1) := by decide +kernel
theorem dX11_measureViews_12 : decode cX11_measureViews 12 = .ok (.getfield 26, 3) := by decide +kernel
theorem dX11_measureViews_15 : decode cX11_measureViews 15 = .ok (.getfield 130, 3) := by decide +kernel
theorem dX11_measureViews_18 : decode cX11_measureViews 18 = .ok (.if_icmp .ge 51, 3) := by decide +kernel
theorem dX11_measureViews_21 : decode cX11_measureViews 21 = .ok (.iconst 0, 1) := by decide +kernel
theorem dX11_measureViews_22 : decode cX11_measureViews 22 = .ok (.istore_n 3, 1) := by decide +kernel
theorem dX11_measureViews_23 : decode cX11_measureViews 23 = .ok (.iload_n 3, 1) := by decide +kernel
theorem dX11_measureViews_24 : decode cX11_measureViews 24 = .ok (.iload_n 1, 1) := by decide +kernel
theorem dX11_measureViews_25 : decode cX11_measureViews 25 = .ok (.if_icmp .ge 38, 3) := by decide +kernel
theorem dX11_measureViews_28 : decode cX11_measureViews 28 = .ok (.aload_n 0, 1) := by decide +kernel
theorem dX11_measureViews_29 : decode cX11_measureViews 29 = .ok (.getfield 51, 3) := by decide +kernel
theorem dX11_measureViews_32 : decode cX11_measureViews 32 = .ok (.iload_n 2, 1) := by decide +kernel
theorem dX11_measureViews_33 : decode cX11_measureViews 33 = .ok (.sipush 144, 3) := by decide +kernel
theorem dX11_measureViews_36 : decode cX11_measureViews 36 = .ok (.imul, 1) := by decide +kernel
theorem dX11_measureViews_37 : decode cX11_measureViews 37 = .ok (.iload_n 3, 1) := by decide +kernel
theorem dX11_measureViews_38 : decode cX11_measureViews 38 = .ok (.iadd, 1) := by decide +kernel
theorem dX11_measureViews_39 : decode cX11_measureViews 39 = .ok (.aload_n 0, 1) := by decide +kernel
theorem dX11_measureViews_40 : decode cX11_measureViews 40 = .ok (.getfield 26, 3) := by decide +kernel
theorem dX11_measureViews_43 : decode cX11_measureViews 43 = .ok (.aload_n 0, 1) := by decide +kernel
theorem dX11_measureViews_44 : decode cX11_measureViews 44 = .ok (.getfield 33, 3) := by decide +kernel
theorem dX11_measureViews_47 : decode cX11_measureViews 47 = .ok (.getfield 197, 3) := by decide +kernel
theorem dX11_measureViews_50 : decode cX11_measureViews 50 = .ok (.iload_n 2, 1) := by decide +kernel
theorem dX11_measureViews_51 : decode cX11_measureViews 51 = .ok (.iaload, 1) := by decide +kernel
theorem dX11_measureViews_52 : decode cX11_measureViews 52 = .ok (.iload_n 3, 1) := by decide +kernel
theorem dX11_measureViews_53 : decode cX11_measureViews 53 = .ok (.invokevirtual 406, 3) := by decide +kernel
theorem dX11_measureViews_56 : decode cX11_measureViews 56 = .ok (.iastore, 1) := by decide +kernel
theorem dX11_measureViews_57 : decode cX11_measureViews 57 = .ok (.iinc 3 1, 3) := by decide +kernel
theorem dX11_measureViews_60 : decode cX11_measureViews 60 = .ok (.goto (-37), 3) := by decide +kernel
theorem dX11_measureViews_63 : decode cX11_measureViews 63 = .ok (.iinc 2 1, 3) := by decide +kernel
theorem dX11_measureViews_66 : decode cX11_measureViews 66 = .ok (.goto (-56), 3) := by decide +kernel
theorem dX11_measureViews_69 : decode cX11_measureViews 69 = .ok (.return_, 1) := by decide +kernel
theorem dX11_refuseAct_0 : decode cX11_refuseAct 0 = .ok (.aload_n 0, 1) := by decide +kernel
theorem dX11_refuseAct_1 : decode cX11_refuseAct 1 = .ok (.getfield 20, 3) := by decide +kernel
theorem dX11_refuseAct_4 : decode cX11_refuseAct 4 = .ok (.iconst 1, 1) := by decide +kernel
theorem dX11_refuseAct_5 : decode cX11_refuseAct 5 = .ok (.dup2, 1) := by decide +kernel
theorem dX11_refuseAct_6 : decode cX11_refuseAct 6 = .ok (.iaload, 1) := by decide +kernel
theorem dX11_refuseAct_7 : decode cX11_refuseAct 7 = .ok (.iconst 1, 1) := by decide +kernel
theorem dX11_refuseAct_8 : decode cX11_refuseAct 8 = .ok (.iadd, 1) := by decide +kernel
theorem dX11_refuseAct_9 : decode cX11_refuseAct 9 = .ok (.iastore, 1) := by decide +kernel
theorem dX11_refuseAct_10 : decode cX11_refuseAct 10 = .ok (.iconst (-1), 1) := by decide +kernel
theorem dX11_refuseAct_11 : decode cX11_refuseAct 11 = .ok (.ireturn, 1) := by decide +kernel
theorem dX11_act_0 : decode cX11_act 0 = .ok (.aload_n 0, 1) := by decide +kernel
theorem dX11_act_1 : decode cX11_act 1 = .ok (.getfield 33, 3) := by decide +kernel
theorem dX11_act_4 : decode cX11_act 4 = .ok (.iload_n 1, 1) := by decide +kernel
theorem dX11_act_5 : decode cX11_act 5 = .ok (.iload_n 2, 1) := by decide +kernel
theorem dX11_act_6 : decode cX11_act 6 = .ok (.iload_n 3, 1) := by decide +kernel
theorem dX11_act_7 : decode cX11_act 7 = .ok (.invokevirtual 409, 3) := by decide +kernel
theorem dX11_act_10 : decode cX11_act 10 = .ok (.istore 4, 2) := by decide +kernel
theorem dX11_act_12 : decode cX11_act 12 = .ok (.aload_n 0, 1) := by decide +kernel
theorem dX11_act_13 : decode cX11_act 13 = .ok (.getfield 33, 3) := by decide +kernel
theorem dX11_act_16 : decode cX11_act 16 = .ok (.getfield 145, 3) := by decide +kernel
theorem dX11_act_19 : decode cX11_act 19 = .ok (.iload_n 1, 1) := by decide +kernel
theorem dX11_act_20 : decode cX11_act 20 = .ok (.iload_n 2, 1) := by decide +kernel
theorem dX11_act_21 : decode cX11_act 21 = .ok (.iload 4, 2) := by decide +kernel
theorem dX11_act_23 : decode cX11_act 23 = .ok (.invokevirtual 412, 3) := by decide +kernel
theorem dX11_act_26 : decode cX11_act 26 = .ok (.aload_n 0, 1) := by decide +kernel
theorem dX11_act_27 : decode cX11_act 27 = .ok (.iconst 0, 1) := by decide +kernel
theorem dX11_act_28 : decode cX11_act 28 = .ok (.putfield 68, 3) := by decide +kernel
theorem dX11_act_31 : decode cX11_act 31 = .ok (.iload 4, 2) := by decide +kernel
theorem dX11_act_33 : decode cX11_act 33 = .ok (.ireturn, 1) := by decide +kernel
theorem dX11_isLawOrNone_0 : decode cX11_isLawOrNone 0 = .ok (.iload_n 1, 1) := by decide +kernel
theorem dX11_isLawOrNone_1 : decode cX11_isLawOrNone 1 = .ok (.iconst (-1), 1) := by decide +kernel
theorem dX11_isLawOrNone_2 : decode cX11_isLawOrNone 2 = .ok (.if_icmp .lt 21, 3) := by decide +kernel
theorem dX11_isLawOrNone_5 : decode cX11_isLawOrNone 5 = .ok (.iload_n 1, 1) := by decide +kernel
theorem dX11_isLawOrNone_6 : decode cX11_isLawOrNone 6 = .ok (.aload_n 0, 1) := by decide +kernel
theorem dX11_isLawOrNone_7 : decode cX11_isLawOrNone 7 = .ok (.getfield 26, 3) := by decide +kernel
theorem dX11_isLawOrNone_10 : decode cX11_isLawOrNone 10 = .ok (.getfield 133, 3) := by decide +kernel
theorem dX11_isLawOrNone_13 : decode cX11_isLawOrNone 13 = .ok (.getfield 137, 3) := by decide +kernel
theorem dX11_isLawOrNone_16 : decode cX11_isLawOrNone 16 = .ok (.if_icmp .ge 7, 3) := by decide +kernel
theorem dX11_isLawOrNone_19 : decode cX11_isLawOrNone 19 = .ok (.iconst 1, 1) := by decide +kernel
theorem dX11_isLawOrNone_20 : decode cX11_isLawOrNone 20 = .ok (.goto 4, 3) := by decide +kernel
theorem dX11_isLawOrNone_23 : decode cX11_isLawOrNone 23 = .ok (.iconst 0, 1) := by decide +kernel
theorem dX11_isLawOrNone_24 : decode cX11_isLawOrNone 24 = .ok (.ireturn, 1) := by decide +kernel
theorem dX11_canMoor_0 : decode cX11_canMoor 0 = .ok (.aload_n 0, 1) := by decide +kernel
theorem dX11_canMoor_1 : decode cX11_canMoor 1 = .ok (.getfield 26, 3) := by decide +kernel
theorem dX11_canMoor_4 : decode cX11_canMoor 4 = .ok (.iload_n 2, 1) := by decide +kernel
theorem dX11_canMoor_5 : decode cX11_canMoor 5 = .ok (.invokevirtual 416, 3) := by decide +kernel
theorem dX11_canMoor_8 : decode cX11_canMoor 8 = .ok (.ifCond .ne 5, 3) := by decide +kernel
theorem dX11_canMoor_11 : decode cX11_canMoor 11 = .ok (.iconst 0, 1) := by decide +kernel
theorem dX11_canMoor_12 : decode cX11_canMoor 12 = .ok (.ireturn, 1) := by decide +kernel
theorem dX11_canMoor_13 : decode cX11_canMoor 13 = .ok (.iconst 0, 1) := by decide +kernel
theorem dX11_canMoor_14 : decode cX11_canMoor 14 = .ok (.istore_n 3, 1) := by decide +kernel
theorem dX11_canMoor_15 : decode cX11_canMoor 15 = .ok (.iload_n 3, 1) := by decide +kernel
theorem dX11_canMoor_16 : decode cX11_canMoor 16 = .ok (.aload_n 0, 1) := by decide +kernel
theorem dX11_canMoor_17 : decode cX11_canMoor 17 = .ok (.getfield 26, 3) := by decide +kernel
theorem dX11_canMoor_20 : decode cX11_canMoor 20 = .ok (.getfield 130, 3) := by decide +kernel
theorem dX11_canMoor_23 : decode cX11_canMoor 23 = .ok (.if_icmp .ge 29, 3) := by decide +kernel
theorem dX11_canMoor_26 : decode cX11_canMoor 26 = .ok (.iload_n 3, 1) := by decide +kernel
theorem dX11_canMoor_27 : decode cX11_canMoor 27 = .ok (.iload_n 1, 1) := by decide +kernel
theorem dX11_canMoor_28 : decode cX11_canMoor 28 = .ok (.if_icmp .eq 18, 3) := by decide +kernel
theorem dX11_canMoor_31 : decode cX11_canMoor 31 = .ok (.aload_n 0, 1) := by decide +kernel
theorem dX11_canMoor_32 : decode cX11_canMoor 32 = .ok (.getfield 33, 3) := by decide +kernel
theorem dX11_canMoor_35 : decode cX11_canMoor 35 = .ok (.getfield 197, 3) := by decide +kernel
theorem dX11_canMoor_38 : decode cX11_canMoor 38 = .ok (.iload_n 3, 1) := by decide +kernel
theorem dX11_canMoor_39 : decode cX11_canMoor 39 = .ok (.iaload, 1) := by decide +kernel
theorem dX11_canMoor_40 : decode cX11_canMoor 40 = .ok (.iload_n 2, 1) := by decide +kernel
theorem dX11_canMoor_41 : decode cX11_canMoor 41 = .ok (.if_icmp .ne 5, 3) := by decide +kernel
theorem dX11_canMoor_44 : decode cX11_canMoor 44 = .ok (.iconst 0, 1) := by decide +kernel
theorem dX11_canMoor_45 : decode cX11_canMoor 45 = .ok (.ireturn, 1) := by decide +kernel
theorem dX11_canMoor_46 : decode cX11_canMoor 46 = .ok (.iinc 3 1, 3) := by decide +kernel
theorem dX11_canMoor_49 : decode cX11_canMoor 49 = .ok (.goto (-34), 3) := by decide +kernel
theorem dX11_canMoor_52 : decode cX11_canMoor 52 = .ok (.iconst 1, 1) := by decide +kernel
theorem dX11_canMoor_53 : decode cX11_canMoor 53 = .ok (.ireturn, 1) := by decide +kernel
theorem dX11_canBegin_0 : decode cX11_canBegin 0 = .ok (.aload_n 0, 1) := by decide +kernel
theorem dX11_canBegin_1 : decode cX11_canBegin 1 = .ok (.getfield 26, 3) := by decide +kernel
theorem dX11_canBegin_4 : decode cX11_canBegin 4 = .ok (.iload_n 3, 1) := by decide +kernel
theorem dX11_canBegin_5 : decode cX11_canBegin 5 = .ok (.invokevirtual 416, 3) := by decide +kernel
theorem dX11_canBegin_8 : decode cX11_canBegin 8 = .ok (.ifCond .ne 5, 3) := by decide +kernel
theorem dX11_canBegin_11 : decode cX11_canBegin 11 = .ok (.iconst 0, 1) := by decide +kernel
theorem dX11_canBegin_12 : decode cX11_canBegin 12 = .ok (.ireturn, 1) := by decide +kernel
theorem dX11_canBegin_13 : decode cX11_canBegin 13 = .ok (.iconst 0, 1) := by decide +kernel
theorem dX11_canBegin_14 : decode cX11_canBegin 14 = .ok (.istore 4, 2) := by decide +kernel
theorem dX11_canBegin_16 : decode cX11_canBegin 16 = .ok (.iload 4, 2) := by decide +kernel
theorem dX11_canBegin_18 : decode cX11_canBegin 18 = .ok (.aload_n 0, 1) := by decide +kernel
theorem dX11_canBegin_19 : decode cX11_canBegin 19 = .ok (.getfield 26, 3) := by decide +kernel
theorem dX11_canBegin_22 : decode cX11_canBegin 22 = .ok (.getfield 127, 3) := by decide +kernel
theorem dX11_canBegin_25 : decode cX11_canBegin 25 = .ok (.if_icmp .ge 28, 3) := by decide +kernel
theorem dX11_canBegin_28 : decode cX11_canBegin 28 = .ok (.iload 4, 2) := by decide +kernel
theorem dX11_canBegin_30 : decode cX11_canBegin 30 = .ok (.iload_n 2, 1) := by decide +kernel
theorem dX11_canBegin_31 : decode cX11_canBegin 31 = .ok (.if_icmp .eq 16, 3) := by decide +kernel
theorem dX11_canBegin_34 : decode cX11_canBegin 34 = .ok (.aload_n 1, 1) := by decide +kernel
theorem dX11_canBegin_35 : decode cX11_canBegin 35 = .ok (.getfield 169, 3) := by decide +kernel
theorem dX11_canBegin_38 : decode cX11_canBegin 38 = .ok (.iload 4, 2) := by decide +kernel
theorem dX11_canBegin_40 : decode cX11_canBegin 40 = .ok (.iaload, 1) := by decide +kernel
theorem dX11_canBegin_41 : decode cX11_canBegin 41 = .ok (.iload_n 3, 1) := by decide +kernel
theorem dX11_canBegin_42 : decode cX11_canBegin 42 = .ok (.if_icmp .ne 5, 3) := by decide +kernel
theorem dX11_canBegin_45 : decode cX11_canBegin 45 = .ok (.iconst 0, 1) := by decide +kernel
theorem dX11_canBegin_46 : decode cX11_canBegin 46 = .ok (.ireturn, 1) := by decide +kernel
theorem dX11_canBegin_47 : decode cX11_canBegin 47 = .ok (.iinc 4 1, 3) := by decide +kernel
theorem dX11_canBegin_50 : decode cX11_canBegin 50 = .ok (.goto (-34), 3) := by decide +kernel
theorem dX11_canBegin_53 : decode cX11_canBegin 53 = .ok (.iconst 1, 1) := by decide +kernel
theorem dX11_canBegin_54 : decode cX11_canBegin 54 = .ok (.ireturn, 1) := by decide +kernel
theorem dX11_sumByLaw_0 : decode cX11_sumByLaw 0 = .ok (.aload_n 0, 1) := by decide +kernel
theorem dX11_sumByLaw_1 : decode cX11_sumByLaw 1 = .ok (.getfield 74, 3) := by decide +kernel
theorem dX11_sumByLaw_4 : decode cX11_sumByLaw 4 = .ok (.aload_n 0, 1) := by decide +kernel
theorem dX11_sumByLaw_5 : decode cX11_sumByLaw 5 = .ok (.getfield 26, 3) := by decide +kernel
theorem dX11_sumByLaw_8 : decode cX11_sumByLaw 8 = .ok (.aload_n 0, 1) := by decide +kernel
theorem dX11_sumByLaw_9 : decode cX11_sumByLaw 9 = .ok (.getfield 33, 3) := by decide +kernel
theorem dX11_sumByLaw_12 : decode cX11_sumByLaw 12 = .ok (.iload_n 1, 1) := by decide +kernel
theorem dX11_sumByLaw_13 : decode cX11_sumByLaw 13 = .ok (.invokevirtual 364, 3) := by decide +kernel
theorem dX11_sumByLaw_16 : decode cX11_sumByLaw 16 = .ok (.aload_n 0, 1) := by decide +kernel
theorem dX11_sumByLaw_17 : decode cX11_sumByLaw 17 = .ok (.getfield 77, 3) := by decide +kernel
theorem dX11_sumByLaw_20 : decode cX11_sumByLaw 20 = .ok (.aload_n 0, 1) := by decide +kernel
theorem dX11_sumByLaw_21 : decode cX11_sumByLaw 21 = .ok (.getfield 26, 3) := by decide +kernel
theorem dX11_sumByLaw_24 : decode cX11_sumByLaw 24 = .ok (.aload_n 0, 1) := by decide +kernel
theorem dX11_sumByLaw_25 : decode cX11_sumByLaw 25 = .ok (.getfield 33, 3) := by decide +kernel
theorem dX11_sumByLaw_28 : decode cX11_sumByLaw 28 = .ok (.aload_n 0, 1) := by decide +kernel
theorem dX11_sumByLaw_29 : decode cX11_sumByLaw 29 = .ok (.getfield 74, 3) := by decide +kernel
theorem dX11_sumByLaw_32 : decode cX11_sumByLaw 32 = .ok (.sipush 240, 3) := by decide +kernel
theorem dX11_sumByLaw_35 : decode cX11_sumByLaw 35 = .ok (.invokevirtual 375, 3) := by decide +kernel
theorem dX11_sumByLaw_38 : decode cX11_sumByLaw 38 = .ok (.aload_n 0, 1) := by decide +kernel
theorem dX11_sumByLaw_39 : decode cX11_sumByLaw 39 = .ok (.getfield 77, 3) := by decide +kernel
theorem dX11_sumByLaw_42 : decode cX11_sumByLaw 42 = .ok (.aload_n 0, 1) := by decide +kernel
theorem dX11_sumByLaw_43 : decode cX11_sumByLaw 43 = .ok (.getfield 26, 3) := by decide +kernel
theorem dX11_sumByLaw_46 : decode cX11_sumByLaw 46 = .ok (.aload_n 0, 1) := by decide +kernel
theorem dX11_sumByLaw_47 : decode cX11_sumByLaw 47 = .ok (.getfield 33, 3) := by decide +kernel
theorem dX11_sumByLaw_50 : decode cX11_sumByLaw 50 = .ok (.aload_n 0, 1) := by decide +kernel
theorem dX11_sumByLaw_51 : decode cX11_sumByLaw 51 = .ok (.getfield 51, 3) := by decide +kernel
theorem dX11_sumByLaw_54 : decode cX11_sumByLaw 54 = .ok (.invokevirtual 379, 3) := by decide +kernel
theorem dX11_sumByLaw_57 : decode cX11_sumByLaw 57 = .ok (.aload_n 0, 1) := by decide +kernel
theorem dX11_sumByLaw_58 : decode cX11_sumByLaw 58 = .ok (.getfield 77, 3) := by decide +kernel
theorem dX11_sumByLaw_61 : decode cX11_sumByLaw 61 = .ok (.aload_n 0, 1) := by decide +kernel
theorem dX11_sumByLaw_62 : decode cX11_sumByLaw 62 = .ok (.getfield 26, 3) := by decide +kernel
theorem dX11_sumByLaw_65 : decode cX11_sumByLaw 65 = .ok (.getfield 130, 3) := by decide +kernel
theorem dX11_sumByLaw_68 : decode cX11_sumByLaw 68 = .ok (.invokevirtual 361, 3) := by decide +kernel
theorem dX11_sumByLaw_71 : decode cX11_sumByLaw 71 = .ok (.ireturn, 1) := by decide +kernel
theorem dX11_hoursSeenFrom_0 : decode cX11_hoursSeenFrom 0 = .ok (.aload_n 0, 1) := by decide +kernel
theorem dX11_hoursSeenFrom_1 : decode cX11_hoursSeenFrom 1 = .ok (.getfield 26, 3) := by decide +kernel
theorem dX11_hoursSeenFrom_4 : decode cX11_hoursSeenFrom 4 = .ok (.iload_n 2, 1) := by decide +kernel
theorem dX11_hoursSeenFrom_5 : decode cX11_hoursSeenFrom 5 = .ok (.invokevirtual 419, 3) := by decide +kernel
theorem dX11_hoursSeenFrom_8 : decode cX11_hoursSeenFrom 8 = .ok (.istore_n 3, 1) := by decide +kernel
theorem dX11_hoursSeenFrom_9 : decode cX11_hoursSeenFrom 9 = .ok (.iconst 0, 1) := by decide +kernel
theorem dX11_hoursSeenFrom_10 : decode cX11_hoursSeenFrom 10 = .ok (.istore 4, 2) := by decide +kernel
theorem dX11_hoursSeenFrom_12 : decode cX11_hoursSeenFrom 12 = .ok (.iload_n 2, 1) := by decide +kernel
theorem dX11_hoursSeenFrom_13 : decode cX11_hoursSeenFrom 13 = .ok (.bipush 24, 2) := by decide +kernel
theorem dX11_hoursSeenFrom_15 : decode cX11_hoursSeenFrom 15 = .ok (.imul, 1) := by decide +kernel
theorem dX11_hoursSeenFrom_16 : decode cX11_hoursSeenFrom 16 = .ok (.bipush 12, 2) := by decide +kernel
theorem dX11_hoursSeenFrom_18 : decode cX11_hoursSeenFrom 18 = .ok (.iadd, 1) := by decide +kernel
theorem dX11_hoursSeenFrom_19 : decode cX11_hoursSeenFrom 19 = .ok (.istore 5, 2) := by decide +kernel
theorem dX11_hoursSeenFrom_21 : decode cX11_hoursSeenFrom 21 = .ok (.iload 5, 2) := by decide +kernel
theorem dX11_hoursSeenFrom_23 : decode cX11_hoursSeenFrom 23 = .ok (.iload_n 2, 1) := by decide +kernel
theorem dX11_hoursSeenFrom_24 : decode cX11_hoursSeenFrom 24 = .ok (.bipush 24, 2) := by decide +kernel
theorem dX11_hoursSeenFrom_26 : decode cX11_hoursSeenFrom 26 = .ok (.imul, 1) := by decide +kernel
theorem dX11_hoursSeenFrom_27 : decode cX11_hoursSeenFrom 27 = .ok (.bipush 24, 2) := by decide +kernel
theorem dX11_hoursSeenFrom_29 : decode cX11_hoursSeenFrom 29 = .ok (.iadd, 1) := by decide +kernel
theorem dX11_hoursSeenFrom_30 : decode cX11_hoursSeenFrom 30 = .ok (.if_icmp .ge 23, 3) := by decide +kernel
theorem dX11_hoursSeenFrom_33 : decode cX11_hoursSeenFrom 33 = .ok (.aload_n 0, 1) := by decide +kernel
theorem dX11_hoursSeenFrom_34 : decode cX11_hoursSeenFrom 34 = .ok (.iload_n 1, 1) := by decide +kernel
theorem dX11_hoursSeenFrom_35 : decode cX11_hoursSeenFrom 35 = .ok (.iload 5, 2) := by decide +kernel
theorem dX11_hoursSeenFrom_37 : decode cX11_hoursSeenFrom 37 = .ok (.iload_n 3, 1) := by decide +kernel
theorem dX11_hoursSeenFrom_38 : decode cX11_hoursSeenFrom 38 = .ok (.invokevirtual 422, 3) := by decide +kernel
theorem dX11_hoursSeenFrom_41 : decode cX11_hoursSeenFrom 41 = .ok (.ifCond .eq 6, 3) := by decide +kernel
theorem dX11_hoursSeenFrom_44 : decode cX11_hoursSeenFrom 44 = .ok (.iinc 4 1, 3) := by decide +kernel
theorem dX11_hoursSeenFrom_47 : decode cX11_hoursSeenFrom 47 = .ok (.iinc 5 1, 3) := by decide +kernel
theorem dX11_hoursSeenFrom_50 : decode cX11_hoursSeenFrom 50 = .ok (.goto (-29), 3) := by decide +kernel
theorem dX11_hoursSeenFrom_53 : decode cX11_hoursSeenFrom 53 = .ok (.iload 4, 2) := by decide +kernel
theorem dX11_hoursSeenFrom_55 : decode cX11_hoursSeenFrom 55 = .ok (.ireturn, 1) := by decide +kernel
theorem dX11_isSomeSeenFrom_0 : decode cX11_isSomeSeenFrom 0 = .ok (.iconst 0, 1) := by decide +kernel
theorem dX11_isSomeSeenFrom_1 : decode cX11_isSomeSeenFrom 1 = .ok (.istore 4, 2) := by decide +kernel
theorem dX11_isSomeSeenFrom_3 : decode cX11_isSomeSeenFrom 3 = .ok (.iload 4, 2) := by decide +kernel
theorem dX11_isSomeSeenFrom_5 : decode cX11_isSomeSeenFrom 5 = .ok (.aload_n 0, 1) := by decide +kernel
theorem dX11_isSomeSeenFrom_6 : decode cX11_isSomeSeenFrom 6 = .ok (.getfield 26, 3) := by decide +kernel
theorem dX11_isSomeSeenFrom_9 : decode cX11_isSomeSeenFrom 9 = .ok (.getfield 127, 3) := by decide +kernel
theorem dX11_isSomeSeenFrom_12 : decode cX11_isSomeSeenFrom 12 = .ok (.if_icmp .ge 61, 3) := by decide +kernel
theorem dX11_isSomeSeenFrom_15 : decode cX11_isSomeSeenFrom 15 = .ok (.aload_n 0, 1) := by decide +kernel
theorem dX11_isSomeSeenFrom_16 : decode cX11_isSomeSeenFrom 16 = .ok (.getfield 33, 3) := by decide +kernel
theorem dX11_isSomeSeenFrom_19 : decode cX11_isSomeSeenFrom 19 = .ok (.getfield 175, 3) := by decide +kernel
theorem dX11_isSomeSeenFrom_22 : decode cX11_isSomeSeenFrom 22 = .ok (.iload 4, 2) := by decide +kernel
theorem dX11_isSomeSeenFrom_24 : decode cX11_isSomeSeenFrom 24 = .ok (.iaload, 1) := by decide +kernel
theorem dX11_isSomeSeenFrom_25 : decode cX11_isSomeSeenFrom 25 = .ok (.iload_n 2, 1) := by decide +kernel
theorem dX11_isSomeSeenFrom_26 : decode cX11_isSomeSeenFrom 26 = .ok (.invokestatic 223, 3) := by decide +kernel
theorem dX11_isSomeSeenFrom_29 : decode cX11_isSomeSeenFrom 29 = .ok (.ifCond .eq 38, 3) := by decide +kernel
theorem dX11_isSomeSeenFrom_32 : decode cX11_isSomeSeenFrom 32 = .ok (.aload_n 0, 1) := by decide +kernel
theorem dX11_isSomeSeenFrom_33 : decode cX11_isSomeSeenFrom 33 = .ok (.getfield 26, 3) := by decide +kernel
theorem dX11_isSomeSeenFrom_36 : decode cX11_isSomeSeenFrom 36 = .ok (.iload_n 1, 1) := by decide +kernel
theorem dX11_isSomeSeenFrom_37 : decode cX11_isSomeSeenFrom 37 = .ok (.aload_n 0, 1) := by decide +kernel
theorem dX11_isSomeSeenFrom_38 : decode cX11_isSomeSeenFrom 38 = .ok (.getfield 64, 3) := by decide +kernel
theorem dX11_isSomeSeenFrom_41 : decode cX11_isSomeSeenFrom 41 = .ok (.iload 4, 2) := by decide +kernel
theorem dX11_isSomeSeenFrom_43 : decode cX11_isSomeSeenFrom 43 = .ok (.iload_n 2, 1) := by decide +kernel
theorem dX11_isSomeSeenFrom_44 : decode cX11_isSomeSeenFrom 44 = .ok (.invokevirtual 216, 3) := by decide +kernel
theorem dX11_isSomeSeenFrom_47 : decode cX11_isSomeSeenFrom 47 = .ok (.invokevirtual 406, 3) := by decide +kernel
theorem dX11_isSomeSeenFrom_50 : decode cX11_isSomeSeenFrom 50 = .ok (.aload_n 0, 1) := by decide +kernel
theorem dX11_isSomeSeenFrom_51 : decode cX11_isSomeSeenFrom 51 = .ok (.getfield 26, 3) := by decide +kernel
theorem dX11_isSomeSeenFrom_54 : decode cX11_isSomeSeenFrom 54 = .ok (.getfield 172, 3) := by decide +kernel
theorem dX11_isSomeSeenFrom_57 : decode cX11_isSomeSeenFrom 57 = .ok (.iload 4, 2) := by decide +kernel
theorem dX11_isSomeSeenFrom_59 : decode cX11_isSomeSeenFrom 59 = .ok (.iaload, 1) := by decide +kernel
theorem dX11_isSomeSeenFrom_60 : decode cX11_isSomeSeenFrom 60 = .ok (.iload_n 3, 1) := by decide +kernel
theorem dX11_isSomeSeenFrom_61 : decode cX11_isSomeSeenFrom 61 = .ok (.isub, 1) := by decide +kernel
theorem dX11_isSomeSeenFrom_62 : decode cX11_isSomeSeenFrom 62 = .ok (.if_icmp .gt 5, 3) := by decide +kernel
theorem dX11_isSomeSeenFrom_65 : decode cX11_isSomeSeenFrom 65 = .ok (.iconst 1, 1) := by decide +kernel
theorem dX11_isSomeSeenFrom_66 : decode cX11_isSomeSeenFrom 66 = .ok (.ireturn, 1) := by decide +kernel
theorem dX11_isSomeSeenFrom_67 : decode cX11_isSomeSeenFrom 67 = .ok (.iinc 4 1, 3) := by decide +kernel
theorem dX11_isSomeSeenFrom_70 : decode cX11_isSomeSeenFrom 70 = .ok (.goto (-67), 3) := by decide +kernel
theorem dX11_isSomeSeenFrom_73 : decode cX11_isSomeSeenFrom 73 = .ok (.iconst 0, 1) := by decide +kernel
theorem dX11_isSomeSeenFrom_74 : decode cX11_isSomeSeenFrom 74 = .ok (.ireturn, 1) := by decide +kernel
theorem dX11_sailFrom_0 : decode cX11_sailFrom 0 = .ok (.aload_n 0, 1) := by decide +kernel
theorem dX11_sailFrom_1 : decode cX11_sailFrom 1 = .ok (.getfield 71, 3) := by decide +kernel
theorem dX11_sailFrom_4 : decode cX11_sailFrom 4 = .ok (.getfield 169, 3) := by decide +kernel
theorem dX11_sailFrom_7 : decode cX11_sailFrom 7 = .ok (.iload_n 1, 1) := by decide +kernel
theorem dX11_sailFrom_8 : decode cX11_sailFrom 8 = .ok (.iload_n 2, 1) := by decide +kernel
theorem dX11_sailFrom_9 : decode cX11_sailFrom 9 = .ok (.iastore, 1) := by decide +kernel
theorem dX11_sailFrom_10 : decode cX11_sailFrom 10 = .ok (.aload_n 0, 1) := by decide +kernel
theorem dX11_sailFrom_11 : decode cX11_sailFrom 11 = .ok (.getfield 77, 3) := by decide +kernel
theorem dX11_sailFrom_14 : decode cX11_sailFrom 14 = .ok (.aload_n 0, 1) := by decide +kernel
theorem dX11_sailFrom_15 : decode cX11_sailFrom 15 = .ok (.getfield 26, 3) := by decide +kernel
theorem dX11_sailFrom_18 : decode cX11_sailFrom 18 = .ok (.aload_n 0, 1) := by decide +kernel
theorem dX11_sailFrom_19 : decode cX11_sailFrom 19 = .ok (.getfield 71, 3) := by decide +kernel
theorem dX11_sailFrom_22 : decode cX11_sailFrom 22 = .ok (.aload_n 0, 1) := by decide +kernel
theorem dX11_sailFrom_23 : decode cX11_sailFrom 23 = .ok (.getfield 57, 3) := by decide +kernel
theorem dX11_sailFrom_26 : decode cX11_sailFrom 26 = .ok (.sipush 240, 3) := by decide +kernel
theorem dX11_sailFrom_29 : decode cX11_sailFrom 29 = .ok (.invokevirtual 375, 3) := by decide +kernel
theorem dX11_sailFrom_32 : decode cX11_sailFrom 32 = .ok (.aload_n 0, 1) := by decide +kernel
theorem dX11_sailFrom_33 : decode cX11_sailFrom 33 = .ok (.getfield 77, 3) := by decide +kernel
theorem dX11_sailFrom_36 : decode cX11_sailFrom 36 = .ok (.aload_n 0, 1) := by decide +kernel
theorem dX11_sailFrom_37 : decode cX11_sailFrom 37 = .ok (.getfield 26, 3) := by decide +kernel
theorem dX11_sailFrom_40 : decode cX11_sailFrom 40 = .ok (.aload_n 0, 1) := by decide +kernel
theorem dX11_sailFrom_41 : decode cX11_sailFrom 41 = .ok (.getfield 71, 3) := by decide +kernel
theorem dX11_sailFrom_44 : decode cX11_sailFrom 44 = .ok (.aload_n 0, 1) := by decide +kernel
theorem dX11_sailFrom_45 : decode cX11_sailFrom 45 = .ok (.getfield 51, 3) := by decide +kernel
theorem dX11_sailFrom_48 : decode cX11_sailFrom 48 = .ok (.invokevirtual 379, 3) := by decide +kernel
theorem dX11_sailFrom_51 : decode cX11_sailFrom 51 = .ok (.return_, 1) := by decide +kernel
theorem dX11_wouldKeepChoice_0 : decode cX11_wouldKeepChoice 0 = .ok (.aload_n 0, 1) := by decide +kernel
theorem dX11_wouldKeepChoice_1 : decode cX11_wouldKeepChoice 1 = .ok (.iload_n 1, 1) := by decide +kernel
theorem dX11_wouldKeepChoice_2 : decode cX11_wouldKeepChoice 2 = .ok (.iload_n 2, 1) := by decide +kernel
theorem dX11_wouldKeepChoice_3 : decode cX11_wouldKeepChoice 3 = .ok (.iload_n 3, 1) := by decide +kernel
theorem dX11_wouldKeepChoice_4 : decode cX11_wouldKeepChoice 4 = .ok (.iload 4, 2) := by decide +kernel
theorem dX11_wouldKeepChoice_6 : decode cX11_wouldKeepChoice 6 = .ok (.iload 5, 2) := by decide +kernel
theorem dX11_wouldKeepChoice_8 : decode cX11_wouldKeepChoice 8 = .ok (.invokevirtual 425, 3) := by decide +kernel
theorem dX11_wouldKeepChoice_11 : decode cX11_wouldKeepChoice 11 = .ok (.iload_n 2, 1) := by decide +kernel
theorem dX11_wouldKeepChoice_12 : decode cX11_wouldKeepChoice 12 = .ok (.ifCond .eq 8, 3) := by decide +kernel
theorem dX11_wouldKeepChoice_15 : decode cX11_wouldKeepChoice 15 = .ok (.iload 6, 2) := by decide +kernel
theorem dX11_wouldKeepChoice_17 : decode cX11_wouldKeepChoice 17 = .ok (.goto 4, 3) := by decide +kernel
theorem dX11_wouldKeepChoice_20 : decode cX11_wouldKeepChoice 20 = .ok (.iconst 0, 1) := by decide +kernel
theorem dX11_wouldKeepChoice_21 : decode cX11_wouldKeepChoice 21 = .ok (.isub, 1) := by decide +kernel
theorem dX11_wouldKeepChoice_22 : decode cX11_wouldKeepChoice 22 = .ok (.istore 7, 2) := by decide +kernel
theorem dX11_wouldKeepChoice_24 : decode cX11_wouldKeepChoice 24 = .ok (.aload_n 0, 1) := by decide +kernel
theorem dX11_wouldKeepChoice_25 : decode cX11_wouldKeepChoice 25 = .ok (.iload_n 1, 1) := by decide +kernel
theorem dX11_wouldKeepChoice_26 : decode cX11_wouldKeepChoice 26 = .ok (.iload_n 2, 1) := by decide +kernel
theorem dX11_wouldKeepChoice_27 : decode cX11_wouldKeepChoice 27 = .ok (.ifCond .ne 7, 3) := by decide +kernel
theorem dX11_wouldKeepChoice_30 : decode cX11_wouldKeepChoice 30 = .ok (.iconst 1, 1) := by decide +kernel
theorem dX11_wouldKeepChoice_31 : decode cX11_wouldKeepChoice 31 = .ok (.goto 4, 3) := by decide +kernel
theorem dX11_wouldKeepChoice_34 : decode cX11_wouldKeepChoice 34 = .ok (.iconst 0, 1) := by decide +kernel
theorem dX11_wouldKeepChoice_35 : decode cX11_wouldKeepChoice 35 = .ok (.iload_n 3, 1) := by decide +kernel
theorem dX11_wouldKeepChoice_36 : decode cX11_wouldKeepChoice 36 = .ok (.iload 4, 2) := by decide +kernel
theorem dX11_wouldKeepChoice_38 : decode cX11_wouldKeepChoice 38 = .ok (.iload 5, 2) := by decide +kernel
theorem dX11_wouldKeepChoice_40 : decode cX11_wouldKeepChoice 40 = .ok (.invokevirtual 425, 3) := by decide +kernel
theorem dX11_wouldKeepChoice_43 : decode cX11_wouldKeepChoice 43 = .ok (.iload_n 2, 1) := by decide +kernel
theorem dX11_wouldKeepChoice_44 : decode cX11_wouldKeepChoice 44 = .ok (.ifCond .eq 7, 3) := by decide +kernel
theorem dX11_wouldKeepChoice_47 : decode cX11_wouldKeepChoice 47 = .ok (.iconst 0, 1) := by decide +kernel
theorem dX11_wouldKeepChoice_48 : decode cX11_wouldKeepChoice 48 = .ok (.goto 5, 3) := by decide +kernel
theorem dX11_wouldKeepChoice_51 : decode cX11_wouldKeepChoice 51 = .ok (.iload 6, 2) := by decide +kernel
theorem dX11_wouldKeepChoice_53 : decode cX11_wouldKeepChoice 53 = .ok (.isub, 1) := by decide +kernel
theorem dX11_wouldKeepChoice_54 : decode cX11_wouldKeepChoice 54 = .ok (.istore 8, 2) := by decide +kernel
theorem dX11_wouldKeepChoice_56 : decode cX11_wouldKeepChoice 56 = .ok (.iload 7, 2) := by decide +kernel
theorem dX11_wouldKeepChoice_58 : decode cX11_wouldKeepChoice 58 = .ok (.iload 8, 2) := by decide +kernel
theorem dX11_wouldKeepChoice_60 : decode cX11_wouldKeepChoice 60 = .ok (.if_icmp .lt 7, 3) := by decide +kernel
theorem dX11_wouldKeepChoice_63 : decode cX11_wouldKeepChoice 63 = .ok (.iconst 1, 1) := by decide +kernel
theorem dX11_wouldKeepChoice_64 : decode cX11_wouldKeepChoice 64 = .ok (.goto 4, 3) := by decide +kernel
theorem dX11_wouldKeepChoice_67 : decode cX11_wouldKeepChoice 67 = .ok (.iconst 0, 1) := by decide +kernel
theorem dX11_wouldKeepChoice_68 : decode cX11_wouldKeepChoice 68 = .ok (.ireturn, 1) := by decide +kernel
theorem dX11_gain_0 : decode cX11_gain 0 = .ok (.iload_n 2, 1) := by decide +kernel
theorem dX11_gain_1 : decode cX11_gain 1 = .ok (.ifCond .ne 5, 3) := by decide +kernel
theorem dX11_gain_4 : decode cX11_gain 4 = .ok (.iconst 0, 1) := by decide +kernel
theorem dX11_gain_5 : decode cX11_gain 5 = .ok (.ireturn, 1) := by decide +kernel
theorem dX11_gain_6 : decode cX11_gain 6 = .ok (.iconst 0, 1) := by decide +kernel
theorem dX11_gain_7 : decode cX11_gain 7 = .ok (.istore 6, 2) := by decide +kernel
theorem dX11_gain_9 : decode cX11_gain 9 = .ok (.iconst 0, 1) := by decide +kernel
theorem dX11_gain_10 : decode cX11_gain 10 = .ok (.istore 7, 2) := by decide +kernel
theorem dX11_gain_12 : decode cX11_gain 12 = .ok (.iload 7, 2) := by decide +kernel
theorem dX11_gain_14 : decode cX11_gain 14 = .ok (.aload_n 0, 1) := by decide +kernel
theorem dX11_gain_15 : decode cX11_gain 15 = .ok (.getfield 26, 3) := by decide +kernel
theorem dX11_gain_18 : decode cX11_gain 18 = .ok (.getfield 130, 3) := by decide +kernel
theorem dX11_gain_21 : decode cX11_gain 21 = .ok (.if_icmp .ge 27, 3) := by decide +kernel
theorem dX11_gain_24 : decode cX11_gain 24 = .ok (.aload_n 0, 1) := by decide +kernel
theorem dX11_gain_25 : decode cX11_gain 25 = .ok (.iload 7, 2) := by decide +kernel
theorem dX11_gain_27 : decode cX11_gain 27 = .ok (.iload_n 1, 1) := by decide +kernel
theorem dX11_gain_28 : decode cX11_gain 28 = .ok (.iload_n 3, 1) := by decide +kernel
theorem dX11_gain_29 : decode cX11_gain 29 = .ok (.iload 4, 2) := by decide +kernel
theorem dX11_gain_31 : decode cX11_gain 31 = .ok (.iload 5, 2) := by decide +kernel
theorem dX11_gain_33 : decode cX11_gain 33 = .ok (.invokevirtual 429, 3) := by decide +kernel
theorem dX11_gain_36 : decode cX11_gain 36 = .ok (.ifCond .eq 6, 3) := by decide +kernel
theorem dX11_gain_39 : decode cX11_gain 39 = .ok (.iinc 6 1, 3) := by decide +kernel
theorem dX11_gain_42 : decode cX11_gain 42 = .ok (.iinc 7 1, 3) := by decide +kernel
theorem dX11_gain_45 : decode cX11_gain 45 = .ok (.goto (-33), 3) := by decide +kernel
theorem dX11_gain_48 : decode cX11_gain 48 = .ok (.iconst 5, 1) := by decide +kernel
theorem dX11_gain_49 : decode cX11_gain 49 = .ok (.iload 6, 2) := by decide +kernel
theorem dX11_gain_51 : decode cX11_gain 51 = .ok (.imul, 1) := by decide +kernel
theorem dX11_gain_52 : decode cX11_gain 52 = .ok (.ireturn, 1) := by decide +kernel
theorem dX11_isOnceAlone_0 : decode cX11_isOnceAlone 0 = .ok (.aload_n 0, 1) := by decide +kernel
theorem dX11_isOnceAlone_1 : decode cX11_isOnceAlone 1 = .ok (.getfield 26, 3) := by decide +kernel
theorem dX11_isOnceAlone_4 : decode cX11_isOnceAlone 4 = .ok (.iload 5, 2) := by decide +kernel
theorem dX11_isOnceAlone_6 : decode cX11_isOnceAlone 6 = .ok (.invokevirtual 419, 3) := by decide +kernel
theorem dX11_isOnceAlone_9 : decode cX11_isOnceAlone 9 = .ok (.istore 6, 2) := by decide +kernel
theorem dX11_isOnceAlone_11 : decode cX11_isOnceAlone 11 = .ok (.bipush 31, 2) := by decide +kernel
theorem dX11_isOnceAlone_13 : decode cX11_isOnceAlone 13 = .ok (.iconst 1, 1) := by decide +kernel
theorem dX11_isOnceAlone_14 : decode cX11_isOnceAlone 14 = .ok (.iload_n 2, 1) := by decide +kernel
theorem dX11_isOnceAlone_15 : decode cX11_isOnceAlone 15 = .ok (.ishl, 1) := by decide +kernel
theorem dX11_isOnceAlone_16 : decode cX11_isOnceAlone 16 = .ok (.iconst (-1), 1) := by decide +kernel
theorem dX11_isOnceAlone_17 : decode cX11_isOnceAlone 17 = .ok (.ixor, 1) := by decide +kernel
theorem dX11_isOnceAlone_18 : decode cX11_isOnceAlone 18 = .ok (.iand, 1) := by decide +kernel
theorem dX11_isOnceAlone_19 : decode cX11_isOnceAlone 19 = .ok (.iconst 1, 1) := by decide +kernel
theorem dX11_isOnceAlone_20 : decode cX11_isOnceAlone 20 = .ok (.iload_n 3, 1) := by decide +kernel
theorem dX11_isOnceAlone_21 : decode cX11_isOnceAlone 21 = .ok (.ishl, 1) := by decide +kernel
theorem dX11_isOnceAlone_22 : decode cX11_isOnceAlone 22 = .ok (.iconst (-1), 1) := by decide +kernel
theorem dX11_isOnceAlone_23 : decode cX11_isOnceAlone 23 = .ok (.ixor, 1) := by decide +kernel
theorem dX11_isOnceAlone_24 : decode cX11_isOnceAlone 24 = .ok (.iand, 1) := by decide +kernel
theorem dX11_isOnceAlone_25 : decode cX11_isOnceAlone 25 = .ok (.istore 7, 2) := by decide +kernel
theorem dX11_isOnceAlone_27 : decode cX11_isOnceAlone 27 = .ok (.iload 5, 2) := by decide +kernel
theorem dX11_isOnceAlone_29 : decode cX11_isOnceAlone 29 = .ok (.bipush 24, 2) := by decide +kernel
theorem dX11_isOnceAlone_31 : decode cX11_isOnceAlone 31 = .ok (.imul, 1) := by decide +kernel
theorem dX11_isOnceAlone_32 : decode cX11_isOnceAlone 32 = .ok (.bipush 12, 2) := by decide +kernel
theorem dX11_isOnceAlone_34 : decode cX11_isOnceAlone 34 = .ok (.iadd, 1) := by decide +kernel
theorem dX11_isOnceAlone_35 : decode cX11_isOnceAlone 35 = .ok (.istore 8, 2) := by decide +kernel
theorem dX11_isOnceAlone_37 : decode cX11_isOnceAlone 37 = .ok (.iload 8, 2) := by decide +kernel
theorem dX11_isOnceAlone_39 : decode cX11_isOnceAlone 39 = .ok (.iload 5, 2) := by decide +kernel
theorem dX11_isOnceAlone_41 : decode cX11_isOnceAlone 41 = .ok (.bipush 24, 2) := by decide +kernel
theorem dX11_isOnceAlone_43 : decode cX11_isOnceAlone 43 = .ok (.imul, 1) := by decide +kernel
theorem dX11_isOnceAlone_44 : decode cX11_isOnceAlone 44 = .ok (.bipush 24, 2) := by decide +kernel
theorem dX11_isOnceAlone_46 : decode cX11_isOnceAlone 46 = .ok (.iadd, 1) := by decide +kernel
theorem dX11_isOnceAlone_47 : decode cX11_isOnceAlone 47 = .ok (.if_icmp .ge 58, 3) := by decide +kernel
theorem dX11_isOnceAlone_50 : decode cX11_isOnceAlone 50 = .ok (.aload_n 0, 1) := by decide +kernel
theorem dX11_isOnceAlone_51 : decode cX11_isOnceAlone 51 = .ok (.iload_n 1, 1) := by decide +kernel
theorem dX11_isOnceAlone_52 : decode cX11_isOnceAlone 52 = .ok (.iload_n 2, 1) := by decide +kernel
theorem dX11_isOnceAlone_53 : decode cX11_isOnceAlone 53 = .ok (.iload 8, 2) := by decide +kernel
theorem dX11_isOnceAlone_55 : decode cX11_isOnceAlone 55 = .ok (.iload 6, 2) := by decide +kernel
theorem dX11_isOnceAlone_57 : decode cX11_isOnceAlone 57 = .ok (.invokevirtual 433, 3) := by decide +kernel
theorem dX11_isOnceAlone_60 : decode cX11_isOnceAlone 60 = .ok (.ifCond .eq 39, 3) := by decide +kernel
theorem dX11_isOnceAlone_63 : decode cX11_isOnceAlone 63 = .ok (.aload_n 0, 1) := by decide +kernel
theorem dX11_isOnceAlone_64 : decode cX11_isOnceAlone 64 = .ok (.getfield 64, 3) := by decide +kernel
theorem dX11_isOnceAlone_67 : decode cX11_isOnceAlone 67 = .ok (.iload_n 1, 1) := by decide +kernel
theorem dX11_isOnceAlone_68 : decode cX11_isOnceAlone 68 = .ok (.iload 8, 2) := by decide +kernel
theorem dX11_isOnceAlone_70 : decode cX11_isOnceAlone 70 = .ok (.invokevirtual 227, 3) := by decide +kernel
theorem dX11_isOnceAlone_73 : decode cX11_isOnceAlone 73 = .ok (.iload 7, 2) := by decide +kernel
theorem dX11_isOnceAlone_75 : decode cX11_isOnceAlone 75 = .ok (.iand, 1) := by decide +kernel
theorem dX11_isOnceAlone_76 : decode cX11_isOnceAlone 76 = .ok (.ifCond .ne 23, 3) := by decide +kernel
theorem dX11_isOnceAlone_79 : decode cX11_isOnceAlone 79 = .ok (.iload 4, 2) := by decide +kernel
theorem dX11_isOnceAlone_81 : decode cX11_isOnceAlone 81 = .ok (.ifCond .eq 16, 3) := by decide +kernel
theorem dX11_isOnceAlone_84 : decode cX11_isOnceAlone 84 = .ok (.aload_n 0, 1) := by decide +kernel
theorem dX11_isOnceAlone_85 : decode cX11_isOnceAlone 85 = .ok (.iload_n 1, 1) := by decide +kernel
theorem dX11_isOnceAlone_86 : decode cX11_isOnceAlone 86 = .ok (.iload_n 3, 1) := by decide +kernel
theorem dX11_isOnceAlone_87 : decode cX11_isOnceAlone 87 = .ok (.iload 8, 2) := by decide +kernel
theorem dX11_isOnceAlone_89 : decode cX11_isOnceAlone 89 = .ok (.iload 6, 2) := by decide +kernel
theorem dX11_isOnceAlone_91 : decode cX11_isOnceAlone 91 = .ok (.invokevirtual 433, 3) := by decide +kernel
theorem dX11_isOnceAlone_94 : decode cX11_isOnceAlone 94 = .ok (.ifCond .ne 5, 3) := by decide +kernel
theorem dX11_isOnceAlone_97 : decode cX11_isOnceAlone 97 = .ok (.iconst 1, 1) := by decide +kernel
theorem dX11_isOnceAlone_98 : decode cX11_isOnceAlone 98 = .ok (.ireturn, 1) := by decide +kernel
theorem dX11_isOnceAlone_99 : decode cX11_isOnceAlone 99 = .ok (.iinc 8 1, 3) := by decide +kernel
theorem dX11_isOnceAlone_102 : decode cX11_isOnceAlone 102 = .ok (.goto (-65), 3) := by decide +kernel
theorem dX11_isOnceAlone_105 : decode cX11_isOnceAlone 105 = .ok (.iconst 0, 1) := by decide +kernel
theorem dX11_isOnceAlone_106 : decode cX11_isOnceAlone 106 = .ok (.ireturn, 1) := by decide +kernel
theorem dX11_isInSight_0 : decode cX11_isInSight 0 = .ok (.aload_n 0, 1) := by decide +kernel
theorem dX11_isInSight_1 : decode cX11_isInSight 1 = .ok (.getfield 51, 3) := by decide +kernel
theorem dX11_isInSight_4 : decode cX11_isInSight 4 = .ok (.iload_n 1, 1) := by decide +kernel
theorem dX11_isInSight_5 : decode cX11_isInSight 5 = .ok (.sipush 144, 3) := by decide +kernel
theorem dX11_isInSight_8 : decode cX11_isInSight 8 = .ok (.imul, 1) := by decide +kernel
theorem dX11_isInSight_9 : decode cX11_isInSight 9 = .ok (.aload_n 0, 1) := by decide +kernel
theorem dX11_isInSight_10 : decode cX11_isInSight 10 = .ok (.getfield 64, 3) := by decide +kernel
theorem dX11_isInSight_13 : decode cX11_isInSight 13 = .ok (.iload_n 2, 1) := by decide +kernel
theorem dX11_isInSight_14 : decode cX11_isInSight 14 = .ok (.iload_n 3, 1) := by decide +kernel
theorem dX11_isInSight_15 : decode cX11_isInSight 15 = .ok (.invokevirtual 216, 3) := by decide +kernel
theorem dX11_isInSight_18 : decode cX11_isInSight 18 = .ok (.iadd, 1) := by decide +kernel
theorem dX11_isInSight_19 : decode cX11_isInSight 19 = .ok (.iaload, 1) := by decide +kernel
theorem dX11_isInSight_20 : decode cX11_isInSight 20 = .ok (.aload_n 0, 1) := by decide +kernel
theorem dX11_isInSight_21 : decode cX11_isInSight 21 = .ok (.getfield 26, 3) := by decide +kernel
theorem dX11_isInSight_24 : decode cX11_isInSight 24 = .ok (.getfield 172, 3) := by decide +kernel
theorem dX11_isInSight_27 : decode cX11_isInSight 27 = .ok (.iload_n 2, 1) := by decide +kernel
theorem dX11_isInSight_28 : decode cX11_isInSight 28 = .ok (.iaload, 1) := by decide +kernel
theorem dX11_isInSight_29 : decode cX11_isInSight 29 = .ok (.iload 4, 2) := by decide +kernel
theorem dX11_isInSight_31 : decode cX11_isInSight 31 = .ok (.isub, 1) := by decide +kernel
theorem dX11_isInSight_32 : decode cX11_isInSight 32 = .ok (.if_icmp .gt 7, 3) := by decide +kernel
theorem dX11_isInSight_35 : decode cX11_isInSight 35 = .ok (.iconst 1, 1) := by decide +kernel
theorem dX11_isInSight_36 : decode cX11_isInSight 36 = .ok (.goto 4, 3) := by decide +kernel
theorem dX11_isInSight_39 : decode cX11_isInSight 39 = .ok (.iconst 0, 1) := by decide +kernel
theorem dX11_isInSight_40 : decode cX11_isInSight 40 = .ok (.ireturn, 1) := by decide +kernel
theorem dX11_storm_0 : decode cX11_storm 0 = .ok (.aload_n 0, 1) := by decide +kernel
theorem dX11_storm_1 : decode cX11_storm 1 = .ok (.getfield 26, 3) := by decide +kernel
theorem dX11_storm_4 : decode cX11_storm 4 = .ok (.getfield 127, 3) := by decide +kernel
theorem dX11_storm_7 : decode cX11_storm 7 = .ok (.ifCond .gt 4, 3) := by decide +kernel
theorem dX11_storm_10 : decode cX11_storm 10 = .ok (.return_, 1) := by decide +kernel
theorem dX11_storm_11 : decode cX11_storm 11 = .ok (.aload_n 0, 1) := by decide +kernel
theorem dX11_storm_12 : decode cX11_storm 12 = .ok (.aload_n 0, 1) := by decide +kernel
theorem dX11_storm_13 : decode cX11_storm 13 = .ok (.getfield 26, 3) := by decide +kernel
theorem dX11_storm_16 : decode cX11_storm 16 = .ok (.getfield 127, 3) := by decide +kernel
theorem dX11_storm_19 : decode cX11_storm 19 = .ok (.invokevirtual 345, 3) := by decide +kernel
theorem dX11_storm_22 : decode cX11_storm 22 = .ok (.istore_n 1, 1) := by decide +kernel
theorem dX11_storm_23 : decode cX11_storm 23 = .ok (.aload_n 0, 1) := by decide +kernel
theorem dX11_storm_24 : decode cX11_storm 24 = .ok (.getfield 26, 3) := by decide +kernel
theorem dX11_storm_27 : decode cX11_storm 27 = .ok (.aload_n 0, 1) := by decide +kernel
theorem dX11_storm_28 : decode cX11_storm 28 = .ok (.getfield 71, 3) := by decide +kernel
theorem dX11_storm_31 : decode cX11_storm 31 = .ok (.getfield 169, 3) := by decide +kernel
theorem dX11_storm_34 : decode cX11_storm 34 = .ok (.iload_n 1, 1) := by decide +kernel
theorem dX11_storm_35 : decode cX11_storm 35 = .ok (.iaload, 1) := by decide +kernel
theorem dX11_storm_36 : decode cX11_storm 36 = .ok (.aload_n 0, 1) := by decide +kernel
theorem dX11_storm_37 : decode cX11_storm 37 = .ok (.iconst 4, 1) := by decide +kernel
theorem dX11_storm_38 : decode cX11_storm 38 = .ok (.invokevirtual 345, 3) := by decide +kernel
theorem dX11_storm_41 : decode cX11_storm 41 = .ok (.invokevirtual 437, 3) := by decide +kernel
theorem dX11_storm_44 : decode cX11_storm 44 = .ok (.istore_n 2, 1) := by decide +kernel
theorem dX11_storm_45 : decode cX11_storm 45 = .ok (.aload_n 0, 1) := by decide +kernel
theorem dX11_storm_46 : decode cX11_storm 46 = .ok (.aload_n 0, 1) := by decide +kernel
theorem dX11_storm_47 : decode cX11_storm 47 = .ok (.getfield 71, 3) := by decide +kernel
theorem dX11_storm_50 : decode cX11_storm 50 = .ok (.iload_n 1, 1) := by decide +kernel
theorem dX11_storm_51 : decode cX11_storm 51 = .ok (.iload_n 2, 1) := by decide +kernel
theorem dX11_storm_52 : decode cX11_storm 52 = .ok (.invokevirtual 257, 3) := by decide +kernel
theorem dX11_storm_55 : decode cX11_storm 55 = .ok (.ifCond .eq 13, 3) := by decide +kernel
theorem dX11_storm_58 : decode cX11_storm 58 = .ok (.aload_n 0, 1) := by decide +kernel
theorem dX11_storm_59 : decode cX11_storm 59 = .ok (.getfield 71, 3) := by decide +kernel
theorem dX11_storm_62 : decode cX11_storm 62 = .ok (.getfield 169, 3) := by decide +kernel
theorem dX11_storm_65 : decode cX11_storm 65 = .ok (.iload_n 1, 1) := by decide +kernel
theorem dX11_storm_66 : decode cX11_storm 66 = .ok (.iload_n 2, 1) := by decide +kernel
theorem dX11_storm_67 : decode cX11_storm 67 = .ok (.iastore, 1) := by decide +kernel
theorem dX11_storm_68 : decode cX11_storm 68 = .ok (.return_, 1) := by decide +kernel
theorem dX11_draw_0 : decode cX11_draw 0 = .ok (.aload_n 0, 1) := by decide +kernel
theorem dX11_draw_1 : decode cX11_draw 1 = .ok (.aload_n 0, 1) := by decide +kernel
theorem dX11_draw_2 : decode cX11_draw 2 = .ok (.getfield 94, 3) := by decide +kernel
theorem dX11_draw_5 : decode cX11_draw 5 = .ok (.ldc_w 440, 3) := by decide +kernel
theorem dX11_draw_8 : decode cX11_draw 8 = .ok (.imul, 1) := by decide +kernel
theorem dX11_draw_9 : decode cX11_draw 9 = .ok (.sipush 12345, 3) := by decide +kernel
theorem dX11_draw_12 : decode cX11_draw 12 = .ok (.iadd, 1) := by decide +kernel
theorem dX11_draw_13 : decode cX11_draw 13 = .ok (.putfield 94, 3) := by decide +kernel
theorem dX11_draw_16 : decode cX11_draw 16 = .ok (.aload_n 0, 1) := by decide +kernel
theorem dX11_draw_17 : decode cX11_draw 17 = .ok (.getfield 94, 3) := by decide +kernel
theorem dX11_draw_20 : decode cX11_draw 20 = .ok (.bipush 16, 2) := by decide +kernel
theorem dX11_draw_22 : decode cX11_draw 22 = .ok (.iushr, 1) := by decide +kernel
theorem dX11_draw_23 : decode cX11_draw 23 = .ok (.sipush 32767, 3) := by decide +kernel
theorem dX11_draw_26 : decode cX11_draw 26 = .ok (.iand, 1) := by decide +kernel
theorem dX11_draw_27 : decode cX11_draw 27 = .ok (.iload_n 1, 1) := by decide +kernel
theorem dX11_draw_28 : decode cX11_draw 28 = .ok (.invokestatic 441, 3) := by decide +kernel
theorem dX11_draw_31 : decode cX11_draw 31 = .ok (.ireturn, 1) := by decide +kernel
theorem dX11_nightInFog_0 : decode cX11_nightInFog 0 = .ok (.aload_n 0, 1) := by decide +kernel
theorem dX11_nightInFog_1 : decode cX11_nightInFog 1 = .ok (.getfield 77, 3) := by decide +kernel
theorem dX11_nightInFog_4 : decode cX11_nightInFog 4 = .ok (.aload_n 0, 1) := by decide +kernel
theorem dX11_nightInFog_5 : decode cX11_nightInFog 5 = .ok (.getfield 26, 3) := by decide +kernel
theorem dX11_nightInFog_8 : decode cX11_nightInFog 8 = .ok (.aload_n 0, 1) := by decide +kernel
theorem dX11_nightInFog_9 : decode cX11_nightInFog 9 = .ok (.getfield 71, 3) := by decide +kernel
theorem dX11_nightInFog_12 : decode cX11_nightInFog 12 = .ok (.aload_n 0, 1) := by decide +kernel
theorem dX11_nightInFog_13 : decode cX11_nightInFog 13 = .ok (.getfield 57, 3) := by decide +kernel
theorem dX11_nightInFog_16 : decode cX11_nightInFog 16 = .ok (.bipush 24, 2) := by decide +kernel
theorem dX11_nightInFog_18 : decode cX11_nightInFog 18 = .ok (.invokevirtual 375, 3) := by decide +kernel
theorem dX11_nightInFog_21 : decode cX11_nightInFog 21 = .ok (.aload_n 0, 1) := by decide +kernel
theorem dX11_nightInFog_22 : decode cX11_nightInFog 22 = .ok (.getfield 77, 3) := by decide +kernel
theorem dX11_nightInFog_25 : decode cX11_nightInFog 25 = .ok (.aload_n 0, 1) := by decide +kernel
theorem dX11_nightInFog_26 : decode cX11_nightInFog 26 = .ok (.getfield 26, 3) := by decide +kernel
theorem dX11_nightInFog_29 : decode cX11_nightInFog 29 = .ok (.aload_n 0, 1) := by decide +kernel
theorem dX11_nightInFog_30 : decode cX11_nightInFog 30 = .ok (.getfield 71, 3) := by decide +kernel
theorem dX11_nightInFog_33 : decode cX11_nightInFog 33 = .ok (.aload_n 0, 1) := by decide +kernel
theorem dX11_nightInFog_34 : decode cX11_nightInFog 34 = .ok (.getfield 51, 3) := by decide +kernel
theorem dX11_nightInFog_37 : decode cX11_nightInFog 37 = .ok (.iconst 0, 1) := by decide +kernel
theorem dX11_nightInFog_38 : decode cX11_nightInFog 38 = .ok (.iload_n 1, 1) := by decide +kernel
theorem dX11_nightInFog_39 : decode cX11_nightInFog 39 = .ok (.invokevirtual 444, 3) := by decide +kernel
theorem dX11_nightInFog_42 : decode cX11_nightInFog 42 = .ok (.aload_n 0, 1) := by decide +kernel
theorem dX11_nightInFog_43 : decode cX11_nightInFog 43 = .ok (.getfield 77, 3) := by decide +kernel
theorem dX11_nightInFog_46 : decode cX11_nightInFog 46 = .ok (.aload_n 0, 1) := by decide +kernel
theorem dX11_nightInFog_47 : decode cX11_nightInFog 47 = .ok (.getfield 26, 3) := by decide +kernel
theorem dX11_nightInFog_50 : decode cX11_nightInFog 50 = .ok (.aload_n 0, 1) := by decide +kernel
theorem dX11_nightInFog_51 : decode cX11_nightInFog 51 = .ok (.getfield 71, 3) := by decide +kernel
theorem dX11_nightInFog_54 : decode cX11_nightInFog 54 = .ok (.iconst 0, 1) := by decide +kernel
theorem dX11_nightInFog_55 : decode cX11_nightInFog 55 = .ok (.bipush 31, 2) := by decide +kernel
theorem dX11_nightInFog_57 : decode cX11_nightInFog 57 = .ok (.invokevirtual 237, 3) := by decide +kernel
theorem dX11_nightInFog_60 : decode cX11_nightInFog 60 = .ok (.ireturn, 1) := by decide +kernel
theorem dX11_oilIn_0 : decode cX11_oilIn 0 = .ok (.bipush 12, 2) := by decide +kernel
theorem dX11_oilIn_2 : decode cX11_oilIn 2 = .ok (.iload_n 1, 1) := by decide +kernel
theorem dX11_oilIn_3 : decode cX11_oilIn 3 = .ok (.bipush 24, 2) := by decide +kernel
theorem dX11_oilIn_5 : decode cX11_oilIn 5 = .ok (.idiv, 1) := by decide +kernel
theorem dX11_oilIn_6 : decode cX11_oilIn 6 = .ok (.imul, 1) := by decide +kernel
theorem dX11_oilIn_7 : decode cX11_oilIn 7 = .ok (.iconst 0, 1) := by decide +kernel
theorem dX11_oilIn_8 : decode cX11_oilIn 8 = .ok (.iload_n 1, 1) := by decide +kernel
theorem dX11_oilIn_9 : decode cX11_oilIn 9 = .ok (.bipush 24, 2) := by decide +kernel
theorem dX11_oilIn_11 : decode cX11_oilIn 11 = .ok (.irem, 1) := by decide +kernel
theorem dX11_oilIn_12 : decode cX11_oilIn 12 = .ok (.bipush 12, 2) := by decide +kernel
theorem dX11_oilIn_14 : decode cX11_oilIn 14 = .ok (.isub, 1) := by decide +kernel
theorem dX11_oilIn_15 : decode cX11_oilIn 15 = .ok (.invokestatic 448, 3) := by decide +kernel
theorem dX11_oilIn_18 : decode cX11_oilIn 18 = .ok (.iadd, 1) := by decide +kernel
theorem dX11_oilIn_19 : decode cX11_oilIn 19 = .ok (.istore_n 2, 1) := by decide +kernel
theorem dX11_oilIn_20 : decode cX11_oilIn 20 = .ok (.iconst 0, 1) := by decide +kernel
theorem dX11_oilIn_21 : decode cX11_oilIn 21 = .ok (.iload_n 0, 1) := by decide +kernel
theorem dX11_oilIn_22 : decode cX11_oilIn 22 = .ok (.iload_n 2, 1) := by decide +kernel
theorem dX11_oilIn_23 : decode cX11_oilIn 23 = .ok (.isub, 1) := by decide +kernel
theorem dX11_oilIn_24 : decode cX11_oilIn 24 = .ok (.invokestatic 448, 3) := by decide +kernel
theorem dX11_oilIn_27 : decode cX11_oilIn 27 = .ok (.ireturn, 1) := by decide +kernel
theorem dX11_isLit_0 : decode cX11_isLit 0 = .ok (.iload_n 1, 1) := by decide +kernel
theorem dX11_isLit_1 : decode cX11_isLit 1 = .ok (.bipush 24, 2) := by decide +kernel
theorem dX11_isLit_3 : decode cX11_isLit 3 = .ok (.irem, 1) := by decide +kernel
theorem dX11_isLit_4 : decode cX11_isLit 4 = .ok (.bipush 12, 2) := by decide +kernel
theorem dX11_isLit_6 : decode cX11_isLit 6 = .ok (.if_icmp .lt 15, 3) := by decide +kernel
theorem dX11_isLit_9 : decode cX11_isLit 9 = .ok (.iload_n 0, 1) := by decide +kernel
theorem dX11_isLit_10 : decode cX11_isLit 10 = .ok (.iload_n 1, 1) := by decide +kernel
theorem dX11_isLit_11 : decode cX11_isLit 11 = .ok (.invokestatic 220, 3) := by decide +kernel
theorem dX11_isLit_14 : decode cX11_isLit 14 = .ok (.ifCond .le 7, 3) := by decide +kernel
theorem dX11_isLit_17 : decode cX11_isLit 17 = .ok (.iconst 1, 1) := by decide +kernel
theorem dX11_isLit_18 : decode cX11_isLit 18 = .ok (.goto 4, 3) := by decide +kernel
theorem dX11_isLit_21 : decode cX11_isLit 21 = .ok (.iconst 0, 1) := by decide +kernel
theorem dX11_isLit_22 : decode cX11_isLit 22 = .ok (.ireturn, 1) := by decide +kernel
theorem dX11_quotient_0 : decode cX11_quotient 0 = .ok (.iload_n 1, 1) := by decide +kernel
theorem dX11_quotient_1 : decode cX11_quotient 1 = .ok (.ifCond .ne 7, 3) := by decide +kernel
theorem dX11_quotient_4 : decode cX11_quotient 4 = .ok (.iconst 0, 1) := by decide +kernel
theorem dX11_quotient_5 : decode cX11_quotient 5 = .ok (.goto 6, 3) := by decide +kernel
theorem dX11_quotient_8 : decode cX11_quotient 8 = .ok (.iload_n 0, 1) := by decide +kernel
theorem dX11_quotient_9 : decode cX11_quotient 9 = .ok (.iload_n 1, 1) := by decide +kernel
theorem dX11_quotient_10 : decode cX11_quotient 10 = .ok (.idiv, 1) := by decide +kernel
theorem dX11_quotient_11 : decode cX11_quotient 11 = .ok (.ireturn, 1) := by decide +kernel
theorem dX11_remainder_0 : decode cX11_remainder 0 = .ok (.iload_n 1, 1) := by decide +kernel
theorem dX11_remainder_1 : decode cX11_remainder 1 = .ok (.ifCond .ne 7, 3) := by decide +kernel
theorem dX11_remainder_4 : decode cX11_remainder 4 = .ok (.iconst 0, 1) := by decide +kernel
theorem dX11_remainder_5 : decode cX11_remainder 5 = .ok (.goto 6, 3) := by decide +kernel
theorem dX11_remainder_8 : decode cX11_remainder 8 = .ok (.iload_n 0, 1) := by decide +kernel
theorem dX11_remainder_9 : decode cX11_remainder 9 = .ok (.iload_n 1, 1) := by decide +kernel
theorem dX11_remainder_10 : decode cX11_remainder 10 = .ok (.irem, 1) := by decide +kernel
theorem dX11_remainder_11 : decode cX11_remainder 11 = .ok (.ireturn, 1) := by decide +kernel
theorem dX12_init_0 : decode cX12_init 0 = .ok (.aload_n 0, 1) := by decide +kernel
theorem dX12_init_1 : decode cX12_init 1 = .ok (.invokespecial 1, 3) := by decide +kernel
theorem dX12_init_4 : decode cX12_init 4 = .ok (.aload_n 0, 1) := by decide +kernel
theorem dX12_init_5 : decode cX12_init 5 = .ok (.bipush 8, 2) := by decide +kernel
theorem dX12_init_7 : decode cX12_init 7 = .ok (.putfield 7, 3) := by decide +kernel
theorem dX12_init_10 : decode cX12_init 10 = .ok (.aload_n 0, 1) := by decide +kernel
theorem dX12_init_11 : decode cX12_init 11 = .ok (.bipush 8, 2) := by decide +kernel
theorem dX12_init_13 : decode cX12_init 13 = .ok (.putfield 13, 3) := by decide +kernel
theorem dX12_init_16 : decode cX12_init 16 = .ok (.aload_n 0, 1) := by decide +kernel
theorem dX12_init_17 : decode cX12_init 17 = .ok (.bipush 12, 2) := by decide +kernel
theorem dX12_init_19 : decode cX12_init 19 = .ok (.newarray .int, 2) := by decide +kernel
theorem dX12_init_21 : decode cX12_init 21 = .ok (.putfield 16, 3) := by decide +kernel
theorem dX12_init_24 : decode cX12_init 24 = .ok (.aload_n 0, 1) := by decide +kernel
theorem dX12_init_25 : decode cX12_init 25 = .ok (.iconst 5, 1) := by decide +kernel
theorem dX12_init_26 : decode cX12_init 26 = .ok (.newarray .int, 2) := by decide +kernel
theorem dX12_init_28 : decode cX12_init 28 = .ok (.putfield 20, 3) := by decide +kernel
theorem dX12_init_31 : decode cX12_init 31 = .ok (.aload_n 0, 1) := by decide +kernel
theorem dX12_init_32 : decode cX12_init 32 = .ok (.iconst 5, 1) := by decide +kernel
theorem dX12_init_33 : decode cX12_init 33 = .ok (.newarray .int, 2) := by decide +kernel
theorem dX12_init_35 : decode cX12_init 35 = .ok (.putfield 23, 3) := by decide +kernel
theorem dX12_init_38 : decode cX12_init 38 = .ok (.aload_n 0, 1) := by decide +kernel
theorem dX12_init_39 : decode cX12_init 39 = .ok (.iconst 5, 1) := by decide +kernel
theorem dX12_init_40 : decode cX12_init 40 = .ok (.newarray .int, 2) := by decide +kernel
theorem dX12_init_42 : decode cX12_init 42 = .ok (.putfield 26, 3) := by decide +kernel
theorem dX12_init_45 : decode cX12_init 45 = .ok (.aload_n 0, 1) := by decide +kernel
theorem dX12_init_46 : decode cX12_init 46 = .ok (.bipush 60, 2) := by decide +kernel
theorem dX12_init_48 : decode cX12_init 48 = .ok (.newarray .int, 2) := by decide +kernel
theorem dX12_init_50 : decode cX12_init 50 = .ok (.putfield 29, 3) := by decide +kernel
theorem dX12_init_53 : decode cX12_init 53 = .ok (.aload_n 0, 1) := by decide +kernel
theorem dX12_init_54 : decode cX12_init 54 = .ok (.iconst 5, 1) := by decide +kernel
theorem dX12_init_55 : decode cX12_init 55 = .ok (.newarray .int, 2) := by decide +kernel
theorem dX12_init_57 : decode cX12_init 57 = .ok (.putfield 32, 3) := by decide +kernel
theorem dX12_init_60 : decode cX12_init 60 = .ok (.aload_n 0, 1) := by decide +kernel
theorem dX12_init_61 : decode cX12_init 61 = .ok (.bipush 30, 2) := by decide +kernel
theorem dX12_init_63 : decode cX12_init 63 = .ok (.newarray .int, 2) := by decide +kernel
theorem dX12_init_65 : decode cX12_init 65 = .ok (.putfield 35, 3) := by decide +kernel
theorem dX12_init_68 : decode cX12_init 68 = .ok (.aload_n 0, 1) := by decide +kernel
theorem dX12_init_69 : decode cX12_init 69 = .ok (.bipush 8, 2) := by decide +kernel
theorem dX12_init_71 : decode cX12_init 71 = .ok (.newarray .int, 2) := by decide +kernel
theorem dX12_init_73 : decode cX12_init 73 = .ok (.putfield 38, 3) := by decide +kernel
theorem dX12_init_76 : decode cX12_init 76 = .ok (.aload_n 0, 1) := by decide +kernel
theorem dX12_init_77 : decode cX12_init 77 = .ok (.iconst 3, 1) := by decide +kernel
theorem dX12_init_78 : decode cX12_init 78 = .ok (.newarray .int, 2) := by decide +kernel
theorem dX12_init_80 : decode cX12_init 80 = .ok (.putfield 41, 3) := by decide +kernel
theorem dX12_init_83 : decode cX12_init 83 = .ok (.aload_n 0, 1) := by decide +kernel
theorem dX12_init_84 : decode cX12_init 84 = .ok (.sipush 2100, 3) := by decide +kernel
theorem dX12_init_87 : decode cX12_init 87 = .ok (.newarray .int, 2) := by decide +kernel
theorem dX12_init_89 : decode cX12_init 89 = .ok (.putfield 44, 3) := by decide +kernel
theorem dX12_init_92 : decode cX12_init 92 = .ok (.aload_n 0, 1) := by decide +kernel
theorem dX12_init_93 : decode cX12_init 93 = .ok (.sipush 144, 3) := by decide +kernel
theorem dX12_init_96 : decode cX12_init 96 = .ok (.newarray .boolean, 2) := by decide +kernel
theorem dX12_init_98 : decode cX12_init 98 = .ok (.putfield 47, 3) := by decide +kernel
theorem dX12_init_101 : decode cX12_init 101 = .ok (.aload_n 0, 1) := by decide +kernel
theorem dX12_init_102 : decode cX12_init 102 = .ok (.sipush 700, 3) := by decide +kernel
theorem dX12_init_105 : decode cX12_init 105 = .ok (.newarray .int, 2) := by decide +kernel
theorem dX12_init_107 : decode cX12_init 107 = .ok (.putfield 51, 3) := by decide +kernel
theorem dX12_init_110 : decode cX12_init 110 = .ok (.aload_n 0, 1) := by decide +kernel
theorem dX12_init_111 : decode cX12_init 111 = .ok (.iconst (-1), 1) := by decide +kernel
theorem dX12_init_112 : decode cX12_init 112 = .ok (.putfield 54, 3) := by decide +kernel
theorem dX12_init_115 : decode cX12_init 115 = .ok (.aload_n 0, 1) := by decide +kernel
theorem dX12_init_116 : decode cX12_init 116 = .ok (.iconst 3, 1) := by decide +kernel
theorem dX12_init_117 : decode cX12_init 117 = .ok (.newarray .int, 2) := by decide +kernel
theorem dX12_init_119 : decode cX12_init 119 = .ok (.putfield 57, 3) := by decide +kernel
theorem dX12_init_122 : decode cX12_init 122 = .ok (.aload_n 0, 1) := by decide +kernel
theorem dX12_init_123 : decode cX12_init 123 = .ok (.sipush 144, 3) := by decide +kernel
theorem dX12_init_126 : decode cX12_init 126 = .ok (.newarray .int, 2) := by decide +kernel
theorem dX12_init_128 : decode cX12_init 128 = .ok (.putfield 60, 3) := by decide +kernel
theorem dX12_init_131 : decode cX12_init 131 = .ok (.aload_n 0, 1) := by decide +kernel
theorem dX12_init_132 : decode cX12_init 132 = .ok (.bipush 12, 2) := by decide +kernel
theorem dX12_init_134 : decode cX12_init 134 = .ok (.newarray .int, 2) := by decide +kernel
theorem dX12_init_136 : decode cX12_init 136 = .ok (.putfield 63, 3) := by decide +kernel
theorem dX12_init_139 : decode cX12_init 139 = .ok (.aload_n 0, 1) := by decide +kernel
theorem dX12_init_140 : decode cX12_init 140 = .ok (.iconst 5, 1) := by decide +kernel
theorem dX12_init_141 : decode cX12_init 141 = .ok (.newarray .int, 2) := by decide +kernel
theorem dX12_init_143 : decode cX12_init 143 = .ok (.putfield 66, 3) := by decide +kernel
theorem dX12_init_146 : decode cX12_init 146 = .ok (.aload_n 0, 1) := by decide +kernel
theorem dX12_init_147 : decode cX12_init 147 = .ok (.iconst 5, 1) := by decide +kernel
theorem dX12_init_148 : decode cX12_init 148 = .ok (.newarray .int, 2) := by decide +kernel
theorem dX12_init_150 : decode cX12_init 150 = .ok (.putfield 69, 3) := by decide +kernel
theorem dX12_init_153 : decode cX12_init 153 = .ok (.aload_n 0, 1) := by decide +kernel
theorem dX12_init_154 : decode cX12_init 154 = .ok (.iconst 5, 1) := by decide +kernel
theorem dX12_init_155 : decode cX12_init 155 = .ok (.newarray .int, 2) := by decide +kernel
theorem dX12_init_157 : decode cX12_init 157 = .ok (.putfield 72, 3) := by decide +kernel
theorem dX12_init_160 : decode cX12_init 160 = .ok (.aload_n 0, 1) := by decide +kernel
theorem dX12_init_161 : decode cX12_init 161 = .ok (.bipush 60, 2) := by decide +kernel
theorem dX12_init_163 : decode cX12_init 163 = .ok (.newarray .int, 2) := by decide +kernel
theorem dX12_init_165 : decode cX12_init 165 = .ok (.putfield 75, 3) := by decide +kernel
theorem dX12_init_168 : decode cX12_init 168 = .ok (.aload_n 0, 1) := by decide +kernel
theorem dX12_init_169 : decode cX12_init 169 = .ok (.iconst 5, 1) := by decide +kernel
theorem dX12_init_170 : decode cX12_init 170 = .ok (.newarray .int, 2) := by decide +kernel
theorem dX12_init_172 : decode cX12_init 172 = .ok (.putfield 78, 3) := by decide +kernel
theorem dX12_init_175 : decode cX12_init 175 = .ok (.aload_n 0, 1) := by decide +kernel
theorem dX12_init_176 : decode cX12_init 176 = .ok (.bipush 30, 2) := by decide +kernel
theorem dX12_init_178 : decode cX12_init 178 = .ok (.newarray .int, 2) := by decide +kernel
theorem dX12_init_180 : decode cX12_init 180 = .ok (.putfield 81, 3) := by decide +kernel
theorem dX12_init_183 : decode cX12_init 183 = .ok (.aload_n 0, 1) := by decide +kernel
theorem dX12_init_184 : decode cX12_init 184 = .ok (.bipush 8, 2) := by decide +kernel
theorem dX12_init_186 : decode cX12_init 186 = .ok (.newarray .int, 2) := by decide +kernel
theorem dX12_init_188 : decode cX12_init 188 = .ok (.putfield 84, 3) := by decide +kernel
theorem dX12_init_191 : decode cX12_init 191 = .ok (.aload_n 0, 1) := by decide +kernel
theorem dX12_init_192 : decode cX12_init 192 = .ok (.iconst 3, 1) := by decide +kernel
theorem dX12_init_193 : decode cX12_init 193 = .ok (.newarray .int, 2) := by decide +kernel
theorem dX12_init_195 : decode cX12_init 195 = .ok (.putfield 87, 3) := by decide +kernel
theorem dX12_init_198 : decode cX12_init 198 = .ok (.aload_n 0, 1) := by decide +kernel
theorem dX12_init_199 : decode cX12_init 199 = .ok (.bipush 27, 2) := by decide +kernel
theorem dX12_init_201 : decode cX12_init 201 = .ok (.newarray .int, 2) := by decide +kernel
theorem dX12_init_203 : decode cX12_init 203 = .ok (.putfield 90, 3) := by decide +kernel
theorem dX12_init_206 : decode cX12_init 206 = .ok (.aload_n 0, 1) := by decide +kernel
theorem dX12_init_207 : decode cX12_init 207 = .ok (.sipush 2100, 3) := by decide +kernel
theorem dX12_init_210 : decode cX12_init 210 = .ok (.newarray .int, 2) := by decide +kernel
theorem dX12_init_212 : decode cX12_init 212 = .ok (.putfield 93, 3) := by decide +kernel
theorem dX12_init_215 : decode cX12_init 215 = .ok (.aload_n 0, 1) := by decide +kernel
theorem dX12_init_216 : decode cX12_init 216 = .ok (.sipush 950, 3) := by decide +kernel
theorem dX12_init_219 : decode cX12_init 219 = .ok (.newarray .int, 2) := by decide +kernel
theorem dX12_init_221 : decode cX12_init 221 = .ok (.putfield 96, 3) := by decide +kernel
theorem dX12_init_224 : decode cX12_init 224 = .ok (.aload_n 0, 1) := by decide +kernel
theorem dX12_init_225 : decode cX12_init 225 = .ok (.bipush 9, 2) := by decide +kernel
theorem dX12_init_227 : decode cX12_init 227 = .ok (.newarray .boolean, 2) := by decide +kernel
theorem dX12_init_229 : decode cX12_init 229 = .ok (.putfield 99, 3) := by decide +kernel
theorem dX12_init_232 : decode cX12_init 232 = .ok (.aload_n 0, 1) := by decide +kernel
theorem dX12_init_233 : decode cX12_init 233 = .ok (.bipush 27, 2) := by decide +kernel
theorem dX12_init_235 : decode cX12_init 235 = .ok (.newarray .int, 2) := by decide +kernel
theorem dX12_init_237 : decode cX12_init 237 = .ok (.putfield 102, 3) := by decide +kernel
theorem dX12_init_240 : decode cX12_init 240 = .ok (.aload_n 0, 1) := by decide +kernel
theorem dX12_init_241 : decode cX12_init 241 = .ok (.bipush 80, 2) := by decide +kernel
theorem dX12_init_243 : decode cX12_init 243 = .ok (.newarray .int, 2) := by decide +kernel
theorem dX12_init_245 : decode cX12_init 245 = .ok (.putfield 105, 3) := by decide +kernel
theorem dX12_init_248 : decode cX12_init 248 = .ok (.aload_n 0, 1) := by decide +kernel
theorem dX12_init_249 : decode cX12_init 249 = .ok (.bipush 6, 2) := by decide +kernel
theorem dX12_init_251 : decode cX12_init 251 = .ok (.newarray .int, 2) := by decide +kernel
theorem dX12_init_253 : decode cX12_init 253 = .ok (.putfield 108, 3) := by decide +kernel
theorem dX12_init_256 : decode cX12_init 256 = .ok (.aload_n 0, 1) := by decide +kernel
theorem dX12_init_257 : decode cX12_init 257 = .ok (.sipush 950, 3) := by decide +kernel
theorem dX12_init_260 : decode cX12_init 260 = .ok (.newarray .int, 2) := by decide +kernel
theorem dX12_init_262 : decode cX12_init 262 = .ok (.putfield 111, 3) := by decide +kernel
theorem dX12_init_265 : decode cX12_init 265 = .ok (.aload_n 0, 1) := by decide +kernel
theorem dX12_init_266 : decode cX12_init 266 = .ok (.sipush 1200, 3) := by decide +kernel
theorem dX12_init_269 : decode cX12_init 269 = .ok (.newarray .int, 2) := by decide +kernel
theorem dX12_init_271 : decode cX12_init 271 = .ok (.putfield 114, 3) := by decide +kernel
theorem dX12_init_274 : decode cX12_init 274 = .ok (.aload_n 0, 1) := by decide +kernel
theorem dX12_init_275 : decode cX12_init 275 = .ok (.sipush 1200, 3) := by decide +kernel
theorem dX12_init_278 : decode cX12_init 278 = .ok (.newarray .int, 2) := by decide +kernel
theorem dX12_init_280 : decode cX12_init 280 = .ok (.putfield 117, 3) := by decide +kernel
theorem dX12_init_283 : decode cX12_init 283 = .ok (.aload_n 0, 1) := by decide +kernel
theorem dX12_init_284 : decode cX12_init 284 = .ok (.iconst 5, 1) := by decide +kernel
theorem dX12_init_285 : decode cX12_init 285 = .ok (.newarray .int, 2) := by decide +kernel
theorem dX12_init_287 : decode cX12_init 287 = .ok (.putfield 120, 3) := by decide +kernel
theorem dX12_init_290 : decode cX12_init 290 = .ok (.aload_n 0, 1) := by decide +kernel
theorem dX12_init_291 : decode cX12_init 291 = .ok (.iconst 5, 1) := by decide +kernel
theorem dX12_init_292 : decode cX12_init 292 = .ok (.newarray .int, 2) := by decide +kernel
theorem dX12_init_294 : decode cX12_init 294 = .ok (.putfield 123, 3) := by decide +kernel
theorem dX12_init_297 : decode cX12_init 297 = .ok (.aload_n 0, 1) := by decide +kernel
theorem dX12_init_298 : decode cX12_init 298 = .ok (.iconst 5, 1) := by decide +kernel
theorem dX12_init_299 : decode cX12_init 299 = .ok (.newarray .int, 2) := by decide +kernel
theorem dX12_init_301 : decode cX12_init 301 = .ok (.putfield 126, 3) := by decide +kernel
theorem dX12_init_304 : decode cX12_init 304 = .ok (.aload_n 0, 1) := by decide +kernel
theorem dX12_init_305 : decode cX12_init 305 = .ok (.iconst 5, 1) := by decide +kernel
theorem dX12_init_306 : decode cX12_init 306 = .ok (.newarray .int, 2) := by decide +kernel
theorem dX12_init_308 : decode cX12_init 308 = .ok (.putfield 129, 3) := by decide +kernel
theorem dX12_init_311 : decode cX12_init 311 = .ok (.aload_n 0, 1) := by decide +kernel
theorem dX12_init_312 : decode cX12_init 312 = .ok (.bipush 40, 2) := by decide +kernel
theorem dX12_init_314 : decode cX12_init 314 = .ok (.newarray .int, 2) := by decide +kernel
theorem dX12_init_316 : decode cX12_init 316 = .ok (.putfield 132, 3) := by decide +kernel
theorem dX12_init_319 : decode cX12_init 319 = .ok (.aload_n 0, 1) := by decide +kernel
theorem dX12_init_320 : decode cX12_init 320 = .ok (.iconst 5, 1) := by decide +kernel
theorem dX12_init_321 : decode cX12_init 321 = .ok (.newarray .int, 2) := by decide +kernel
theorem dX12_init_323 : decode cX12_init 323 = .ok (.putfield 135, 3) := by decide +kernel
theorem dX12_init_326 : decode cX12_init 326 = .ok (.aload_n 0, 1) := by decide +kernel
theorem dX12_init_327 : decode cX12_init 327 = .ok (.bipush 8, 2) := by decide +kernel
theorem dX12_init_329 : decode cX12_init 329 = .ok (.newarray .int, 2) := by decide +kernel
theorem dX12_init_331 : decode cX12_init 331 = .ok (.putfield 138, 3) := by decide +kernel
theorem dX12_init_334 : decode cX12_init 334 = .ok (.aload_n 0, 1) := by decide +kernel
theorem dX12_init_335 : decode cX12_init 335 = .ok (.iconst 5, 1) := by decide +kernel
theorem dX12_init_336 : decode cX12_init 336 = .ok (.newarray .int, 2) := by decide +kernel
theorem dX12_init_338 : decode cX12_init 338 = .ok (.putfield 141, 3) := by decide +kernel
theorem dX12_init_341 : decode cX12_init 341 = .ok (.aload_n 0, 1) := by decide +kernel
theorem dX12_init_342 : decode cX12_init 342 = .ok (.bipush 32, 2) := by decide +kernel
theorem dX12_init_344 : decode cX12_init 344 = .ok (.newarray .int, 2) := by decide +kernel
theorem dX12_init_346 : decode cX12_init 346 = .ok (.putfield 144, 3) := by decide +kernel
theorem dX12_init_349 : decode cX12_init 349 = .ok (.aload_n 0, 1) := by decide +kernel
theorem dX12_init_350 : decode cX12_init 350 = .ok (.iconst 5, 1) := by decide +kernel
theorem dX12_init_351 : decode cX12_init 351 = .ok (.newarray .int, 2) := by decide +kernel
theorem dX12_init_353 : decode cX12_init 353 = .ok (.putfield 147, 3) := by decide +kernel
theorem dX12_init_356 : decode cX12_init 356 = .ok (.aload_n 0, 1) := by decide +kernel
theorem dX12_init_357 : decode cX12_init 357 = .ok (.bipush 27, 2) := by decide +kernel
theorem dX12_init_359 : decode cX12_init 359 = .ok (.newarray .int, 2) := by decide +kernel
theorem dX12_init_361 : decode cX12_init 361 = .ok (.putfield 150, 3) := by decide +kernel
theorem dX12_init_364 : decode cX12_init 364 = .ok (.aload_n 0, 1) := by decide +kernel
theorem dX12_init_365 : decode cX12_init 365 = .ok (.bipush 80, 2) := by decide +kernel
theorem dX12_init_367 : decode cX12_init 367 = .ok (.newarray .int, 2) := by decide +kernel
theorem dX12_init_369 : decode cX12_init 369 = .ok (.putfield 153, 3) := by decide +kernel
theorem dX12_init_372 : decode cX12_init 372 = .ok (.aload_n 0, 1) := by decide +kernel
theorem dX12_init_373 : decode cX12_init 373 = .ok (.bipush 32, 2) := by decide +kernel
theorem dX12_init_375 : decode cX12_init 375 = .ok (.newarray .int, 2) := by decide +kernel
theorem dX12_init_377 : decode cX12_init 377 = .ok (.putfield 156, 3) := by decide +kernel
theorem dX12_init_380 : decode cX12_init 380 = .ok (.aload_n 0, 1) := by decide +kernel
theorem dX12_init_381 : decode cX12_init 381 = .ok (.getfield 102, 3) := by decide +kernel
theorem dX12_init_384 : decode cX12_init 384 = .ok (.bipush 18, 2) := by decide +kernel
theorem dX12_init_386 : decode cX12_init 386 = .ok (.iconst (-1), 1) := by decide +kernel
theorem dX12_init_387 : decode cX12_init 387 = .ok (.iastore, 1) := by decide +kernel
theorem dX12_init_388 : decode cX12_init 388 = .ok (.return_, 1) := by decide +kernel
theorem dX12_thrown_0 : decode cX12_thrown 0 = .ok (.aload_n 0, 1) := by decide +kernel
theorem dX12_thrown_1 : decode cX12_thrown 1 = .ok (.getfield 159, 3) := by decide +kernel
theorem dX12_thrown_4 : decode cX12_thrown 4 = .ok (.ireturn, 1) := by decide +kernel
theorem dX12_right_0 : decode cX12_right 0 = .ok (.aload_n 0, 1) := by decide +kernel
theorem dX12_right_1 : decode cX12_right 1 = .ok (.getfield 159, 3) := by decide +kernel
theorem dX12_right_4 : decode cX12_right 4 = .ok (.ifCond .ne 12, 3) := by decide +kernel
theorem dX12_right_7 : decode cX12_right 7 = .ok (.iload_n 1, 1) := by decide +kernel
theorem dX12_right_8 : decode cX12_right 8 = .ok (.ifCond .ne 8, 3) := by decide +kernel
theorem dX12_right_11 : decode cX12_right 11 = .ok (.aload_n 0, 1) := by decide +kernel
theorem dX12_right_12 : decode cX12_right 12 = .ok (.iload_n 2, 1) := by decide +kernel
theorem dX12_right_13 : decode cX12_right 13 = .ok (.putfield 159, 3) := by decide +kernel
theorem dX12_right_16 : decode cX12_right 16 = .ok (.aload_n 0, 1) := by decide +kernel
theorem dX12_right_17 : decode cX12_right 17 = .ok (.getfield 159, 3) := by decide +kernel
theorem dX12_right_20 : decode cX12_right 20 = .ok (.ifCond .ne 7, 3) := by decide +kernel
theorem dX12_right_23 : decode cX12_right 23 = .ok (.iconst 1, 1) := by decide +kernel
theorem dX12_right_24 : decode cX12_right 24 = .ok (.goto 4, 3) := by decide +kernel
theorem dX12_right_27 : decode cX12_right 27 = .ok (.iconst 0, 1) := by decide +kernel
theorem dX12_right_28 : decode cX12_right 28 = .ok (.ireturn, 1) := by decide +kernel
theorem dX12_within_0 : decode cX12_within 0 = .ok (.iload_n 0, 1) := by decide +kernel
theorem dX12_within_1 : decode cX12_within 1 = .ok (.iload_n 1, 1) := by decide +kernel
theorem dX12_within_2 : decode cX12_within 2 = .ok (.if_icmp .lt 12, 3) := by decide +kernel
theorem dX12_within_5 : decode cX12_within 5 = .ok (.iload_n 0, 1) := by decide +kernel
theorem dX12_within_6 : decode cX12_within 6 = .ok (.iload_n 2, 1) := by decide +kernel
theorem dX12_within_7 : decode cX12_within 7 = .ok (.if_icmp .gt 7, 3) := by decide +kernel
theorem dX12_within_10 : decode cX12_within 10 = .ok (.iconst 1, 1) := by decide +kernel
theorem dX12_within_11 : decode cX12_within 11 = .ok (.goto 4, 3) := by decide +kernel
theorem dX12_within_14 : decode cX12_within 14 = .ok (.iconst 0, 1) := by decide +kernel
theorem dX12_within_15 : decode cX12_within 15 = .ok (.ireturn, 1) := by decide +kernel
theorem dX12_off_0 : decode cX12_off 0 = .ok (.iload_n 0, 1) := by decide +kernel
theorem dX12_off_1 : decode cX12_off 1 = .ok (.iload_n 1, 1) := by decide +kernel
theorem dX12_off_2 : decode cX12_off 2 = .ok (.if_icmp .ge 9, 3) := by decide +kernel
theorem dX12_off_5 : decode cX12_off 5 = .ok (.iload_n 1, 1) := by decide +kernel
theorem dX12_off_6 : decode cX12_off 6 = .ok (.iload_n 0, 1) := by decide +kernel
theorem dX12_off_7 : decode cX12_off 7 = .ok (.isub, 1) := by decide +kernel
theorem dX12_off_8 : decode cX12_off 8 = .ok (.goto 6, 3) := by decide +kernel
theorem dX12_off_11 : decode cX12_off 11 = .ok (.iload_n 0, 1) := by decide +kernel
theorem dX12_off_12 : decode cX12_off 12 = .ok (.iload_n 1, 1) := by decide +kernel
theorem dX12_off_13 : decode cX12_off 13 = .ok (.isub, 1) := by decide +kernel
theorem dX12_off_14 : decode cX12_off 14 = .ok (.ireturn, 1) := by decide +kernel
theorem dX12_copies_0 : decode cX12_copies 0 = .ok (.iconst 0, 1) := by decide +kernel
theorem dX12_copies_1 : decode cX12_copies 1 = .ok (.istore_n 3, 1) := by decide +kernel
theorem dX12_copies_2 : decode cX12_copies 2 = .ok (.iload_n 3, 1) := by decide +kernel
theorem dX12_copies_3 : decode cX12_copies 3 = .ok (.aload_n 1, 1) := by decide +kernel
theorem dX12_copies_4 : decode cX12_copies 4 = .ok (.arraylength, 1) := by decide +kernel
theorem dX12_copies_5 : decode cX12_copies 5 = .ok (.if_icmp .ge 15, 3) := by decide +kernel
theorem dX12_copies_8 : decode cX12_copies 8 = .ok (.aload_n 2, 1) := by decide +kernel
theorem dX12_copies_9 : decode cX12_copies 9 = .ok (.iload_n 3, 1) := by decide +kernel
theorem dX12_copies_10 : decode cX12_copies 10 = .ok (.aload_n 1, 1) := by decide +kernel
theorem dX12_copies_11 : decode cX12_copies 11 = .ok (.iload_n 3, 1) := by decide +kernel
theorem dX12_copies_12 : decode cX12_copies 12 = .ok (.iaload, 1) := by decide +kernel
theorem dX12_copies_13 : decode cX12_copies 13 = .ok (.iastore, 1) := by decide +kernel
theorem dX12_copies_14 : decode cX12_copies 14 = .ok (.iinc 3 1, 3) := by decide +kernel
theorem dX12_copies_17 : decode cX12_copies 17 = .ok (.goto (-15), 3) := by decide +kernel
theorem dX12_copies_20 : decode cX12_copies 20 = .ok (.return_, 1) := by decide +kernel
theorem dX12_bits_0 : decode cX12_bits 0 = .ok (.iconst 0, 1) := by decide +kernel
theorem dX12_bits_1 : decode cX12_bits 1 = .ok (.istore_n 1, 1) := by decide +kernel
theorem dX12_bits_2 : decode cX12_bits 2 = .ok (.iconst 0, 1) := by decide +kernel
theorem dX12_bits_3 : decode cX12_bits 3 = .ok (.istore_n 2, 1) := by decide +kernel
theorem dX12_bits_4 : decode cX12_bits 4 = .ok (.iload_n 2, 1) := by decide +kernel
theorem dX12_bits_5 : decode cX12_bits 5 = .ok (.bipush 8, 2) := by decide +kernel
theorem dX12_bits_7 : decode cX12_bits 7 = .ok (.if_icmp .ge 17, 3) := by decide +kernel
theorem dX12_bits_10 : decode cX12_bits 10 = .ok (.iload_n 1, 1) := by decide +kernel
theorem dX12_bits_11 : decode cX12_bits 11 = .ok (.iload_n 0, 1) := by decide +kernel
theorem dX12_bits_12 : decode cX12_bits 12 = .ok (.iload_n 2, 1) := by decide +kernel
theorem dX12_bits_13 : decode cX12_bits 13 = .ok (.ishr, 1) := by decide +kernel
theorem dX12_bits_14 : decode cX12_bits 14 = .ok (.iconst 1, 1) := by decide +kernel
theorem dX12_bits_15 : decode cX12_bits 15 = .ok (.iand, 1) := by decide +kernel
theorem dX12_bits_16 : decode cX12_bits 16 = .ok (.iadd, 1) := by decide +kernel
theorem dX12_bits_17 : decode cX12_bits 17 = .ok (.istore_n 1, 1) := by decide +kernel
theorem dX12_bits_18 : decode cX12_bits 18 = .ok (.iinc 2 1, 3) := by decide +kernel
theorem dX12_bits_21 : decode cX12_bits 21 = .ok (.goto (-17), 3) := by decide +kernel
theorem dX12_bits_24 : decode cX12_bits 24 = .ok (.iload_n 1, 1) := by decide +kernel
theorem dX12_bits_25 : decode cX12_bits 25 = .ok (.ireturn, 1) := by decide +kernel
theorem dX12_feed_0 : decode cX12_feed 0 = .ok (.aload_n 0, 1) := by decide +kernel
theorem dX12_feed_1 : decode cX12_feed 1 = .ok (.iconst 0, 1) := by decide +kernel
theorem dX12_feed_2 : decode cX12_feed 2 = .ok (.putfield 159, 3) := by decide +kernel
theorem dX12_feed_5 : decode cX12_feed 5 = .ok (.aload_n 0, 1) := by decide +kernel
theorem dX12_feed_6 : decode cX12_feed 6 = .ok (.getfield 162, 3) := by decide +kernel
theorem dX12_feed_9 : decode cX12_feed 9 = .ok (.bipush 20, 2) := by decide +kernel
theorem dX12_feed_11 : decode cX12_feed 11 = .ok (.iadd, 1) := by decide +kernel
theorem dX12_feed_12 : decode cX12_feed 12 = .ok (.sipush 700, 3) := by decide +kernel
theorem dX12_feed_15 : decode cX12_feed 15 = .ok (.if_icmp .le 5, 3) := by decide +kernel
theorem dX12_feed_18 : decode cX12_feed 18 = .ok (.iconst (-1), 1) := by decide +kernel
theorem dX12_feed_19 : decode cX12_feed 19 = .ok (.ireturn, 1) := by decide +kernel
theorem dX12_feed_20 : decode cX12_feed 20 = .ok (.aload_n 0, 1) := by decide +kernel
theorem dX12_feed_21 : decode cX12_feed 21 = .ok (.iload_n 1, 1) := by decide +kernel
theorem dX12_feed_22 : decode cX12_feed 22 = .ok (.invokevirtual 165, 3) := by decide +kernel
theorem dX12_feed_25 : decode cX12_feed 25 = .ok (.aload_n 0, 1) := by decide +kernel
theorem dX12_feed_26 : decode cX12_feed 26 = .ok (.iload_n 2, 1) := by decide +kernel
theorem dX12_feed_27 : decode cX12_feed 27 = .ok (.invokevirtual 165, 3) := by decide +kernel
theorem dX12_feed_30 : decode cX12_feed 30 = .ok (.aload_n 0, 1) := by decide +kernel
theorem dX12_feed_31 : decode cX12_feed 31 = .ok (.iload_n 3, 1) := by decide +kernel
theorem dX12_feed_32 : decode cX12_feed 32 = .ok (.invokevirtual 165, 3) := by decide +kernel
theorem dX12_feed_35 : decode cX12_feed 35 = .ok (.aload_n 0, 1) := by decide +kernel
theorem dX12_feed_36 : decode cX12_feed 36 = .ok (.iload 4, 2) := by decide +kernel
theorem dX12_feed_38 : decode cX12_feed 38 = .ok (.invokevirtual 165, 3) := by decide +kernel
theorem dX12_feed_41 : decode cX12_feed 41 = .ok (.aload_n 0, 1) := by decide +kernel
theorem dX12_feed_42 : decode cX12_feed 42 = .ok (.iload 5, 2) := by decide +kernel
theorem dX12_feed_44 : decode cX12_feed 44 = .ok (.invokevirtual 165, 3) := by decide +kernel
theorem dX12_feed_47 : decode cX12_feed 47 = .ok (.aload_n 0, 1) := by decide +kernel
theorem dX12_feed_48 : decode cX12_feed 48 = .ok (.getfield 162, 3) := by decide +kernel
theorem dX12_feed_51 : decode cX12_feed 51 = .ok (.ireturn, 1) := by decide +kernel
theorem dX12_lays_0 : decode cX12_lays 0 = .ok (.bipush 24, 2) := by decide +kernel
theorem dX12_lays_2 : decode cX12_lays 2 = .ok (.istore_n 2, 1) := by decide +kernel
theorem dX12_lays_3 : decode cX12_lays 3 = .ok (.iload_n 2, 1) := by decide +kernel
theorem dX12_lays_4 : decode cX12_lays 4 = .ok (.ifCond .lt 35, 3) := by decide +kernel
theorem dX12_lays_7 : decode cX12_lays 7 = .ok (.aload_n 0, 1) := by decide +kernel
theorem dX12_lays_8 : decode cX12_lays 8 = .ok (.getfield 51, 3) := by decide +kernel
theorem dX12_lays_11 : decode cX12_lays 11 = .ok (.aload_n 0, 1) := by decide +kernel
theorem dX12_lays_12 : decode cX12_lays 12 = .ok (.getfield 162, 3) := by decide +kernel
theorem dX12_lays_15 : decode cX12_lays 15 = .ok (.iload_n 1, 1) := by decide +kernel
theorem dX12_lays_16 : decode cX12_lays 16 = .ok (.iload_n 2, 1) := by decide +kernel
theorem dX12_lays_17 : decode cX12_lays 17 = .ok (.ishr, 1) := by decide +kernel
theorem dX12_lays_18 : decode cX12_lays 18 = .ok (.sipush 255, 3) := by decide +kernel
theorem dX12_lays_21 : decode cX12_lays 21 = .ok (.iand, 1) := by decide +kernel
theorem dX12_lays_22 : decode cX12_lays 22 = .ok (.iastore, 1) := by decide +kernel
theorem dX12_lays_23 : decode cX12_lays 23 = .ok (.aload_n 0, 1) := by decide +kernel
theorem dX12_lays_24 : decode cX12_lays 24 = .ok (.dup, 1) := by decide +kernel
theorem dX12_lays_25 : decode cX12_lays 25 = .ok (.getfield 162, 3) := by decide +kernel
theorem dX12_lays_28 : decode cX12_lays 28 = .ok (.iconst 1, 1) := by decide +kernel
theorem dX12_lays_29 : decode cX12_lays 29 = .ok (.iadd, 1) := by decide +kernel
theorem dX12_lays_30 : decode cX12_lays 30 = .ok (.putfield 162, 3) := by decide +kernel
theorem dX12_lays_33 : decode cX12_lays 33 = .ok (.iinc 2 (-8), 3) := by decide +kernel
theorem dX12_lays_36 : decode cX12_lays 36 = .ok (.goto (-33), 3) := by decide +kernel
theorem dX12_lays_39 : decode cX12_lays 39 = .ok (.return_, 1) := by decide +kernel
theorem dX12_byteAt_0 : decode cX12_byteAt 0 = .ok (.iload_n 1, 1) := by decide +kernel
theorem dX12_byteAt_1 : decode cX12_byteAt 1 = .ok (.aload_n 0, 1) := by decide +kernel
theorem dX12_byteAt_2 : decode cX12_byteAt 2 = .ok (.getfield 169, 3) := by decide +kernel
theorem dX12_byteAt_5 : decode cX12_byteAt 5 = .ok (.if_icmp .ge 12, 3) := by decide +kernel
theorem dX12_byteAt_8 : decode cX12_byteAt 8 = .ok (.aload_n 0, 1) := by decide +kernel
theorem dX12_byteAt_9 : decode cX12_byteAt 9 = .ok (.getfield 51, 3) := by decide +kernel
theorem dX12_byteAt_12 : decode cX12_byteAt 12 = .ok (.iload_n 1, 1) := by decide +kernel
theorem dX12_byteAt_13 : decode cX12_byteAt 13 = .ok (.iaload, 1) := by decide +kernel
theorem dX12_byteAt_14 : decode cX12_byteAt 14 = .ok (.goto 4, 3) := by decide +kernel
theorem dX12_byteAt_17 : decode cX12_byteAt 17 = .ok (.iconst 0, 1) := by decide +kernel
theorem dX12_byteAt_18 : decode cX12_byteAt 18 = .ok (.ireturn, 1) := by decide +kernel
theorem dX12_isLetter_0 : decode cX12_isLetter 0 = .ok (.iload_n 0, 1) := by decide +kernel
theorem dX12_isLetter_1 : decode cX12_isLetter 1 = .ok (.bipush 97, 2) := by decide +kernel
theorem dX12_isLetter_3 : decode cX12_isLetter 3 = .ok (.if_icmp .lt 13, 3) := by decide +kernel
theorem dX12_isLetter_6 : decode cX12_isLetter 6 = .ok (.iload_n 0, 1) := by decide +kernel
theorem dX12_isLetter_7 : decode cX12_isLetter 7 = .ok (.bipush 122, 2) := by decide +kernel
theorem dX12_isLetter_9 : decode cX12_isLetter 9 = .ok (.if_icmp .gt 7, 3) := by decide +kernel
theorem dX12_isLetter_12 : decode cX12_isLetter 12 = .ok (.iconst 1, 1) := by decide +kernel
theorem dX12_isLetter_13 : decode cX12_isLetter 13 = .ok (.goto 4, 3) := by decide +kernel
theorem dX12_isLetter_16 : decode cX12_isLetter 16 = .ok (.iconst 0, 1) := by decide +kernel
theorem dX12_isLetter_17 : decode cX12_isLetter 17 = .ok (.ireturn, 1) := by decide +kernel
theorem dX12_isDigit_0 : decode cX12_isDigit 0 = .ok (.iload_n 0, 1) := by decide +kernel
theorem dX12_isDigit_1 : decode cX12_isDigit 1 = .ok (.bipush 48, 2) := by decide +kernel
theorem dX12_isDigit_3 : decode cX12_isDigit 3 = .ok (.if_icmp .lt 13, 3) := by decide +kernel
theorem dX12_isDigit_6 : decode cX12_isDigit 6 = .ok (.iload_n 0, 1) := by decide +kernel
theorem dX12_isDigit_7 : decode cX12_isDigit 7 = .ok (.bipush 57, 2) := by decide +kernel
theorem dX12_isDigit_9 : decode cX12_isDigit 9 = .ok (.if_icmp .gt 7, 3) := by decide +kernel
theorem dX12_isDigit_12 : decode cX12_isDigit 12 = .ok (.iconst 1, 1) := by decide +kernel
theorem dX12_isDigit_13 : decode cX12_isDigit 13 = .ok (.goto 4, 3) := by decide +kernel
theorem dX12_isDigit_16 : decode cX12_isDigit 16 = .ok (.iconst 0, 1) := by decide +kernel
theorem dX12_isDigit_17 : decode cX12_isDigit 17 = .ok (.ireturn, 1) := by decide +kernel
theorem dX12_goes_0 : decode cX12_goes 0 = .ok (.aload_n 0, 1) := by decide +kernel
theorem dX12_goes_1 : decode cX12_goes 1 = .ok (.getfield 172, 3) := by decide +kernel
theorem dX12_goes_4 : decode cX12_goes 4 = .ok (.aload_n 0, 1) := by decide +kernel
theorem dX12_goes_5 : decode cX12_goes 5 = .ok (.getfield 169, 3) := by decide +kernel
theorem dX12_goes_8 : decode cX12_goes 8 = .ok (.if_icmp .ge 42, 3) := by decide +kernel
theorem dX12_goes_11 : decode cX12_goes 11 = .ok (.aload_n 0, 1) := by decide +kernel
theorem dX12_goes_12 : decode cX12_goes 12 = .ok (.aload_n 0, 1) := by decide +kernel
theorem dX12_goes_13 : decode cX12_goes 13 = .ok (.getfield 172, 3) := by decide +kernel
theorem dX12_goes_16 : decode cX12_goes 16 = .ok (.invokevirtual 175, 3) := by decide +kernel
theorem dX12_goes_19 : decode cX12_goes 19 = .ok (.bipush 32, 2) := by decide +kernel
theorem dX12_goes_21 : decode cX12_goes 21 = .ok (.if_icmp .eq 16, 3) := by decide +kernel
theorem dX12_goes_24 : decode cX12_goes 24 = .ok (.aload_n 0, 1) := by decide +kernel
theorem dX12_goes_25 : decode cX12_goes 25 = .ok (.aload_n 0, 1) := by decide +kernel
theorem dX12_goes_26 : decode cX12_goes 26 = .ok (.getfield 172, 3) := by decide +kernel
theorem dX12_goes_29 : decode cX12_goes 29 = .ok (.invokevirtual 175, 3) := by decide +kernel
theorem dX12_goes_32 : decode cX12_goes 32 = .ok (.bipush 10, 2) := by decide +kernel
theorem dX12_goes_34 : decode cX12_goes 34 = .ok (.if_icmp .ne 16, 3) := by decide +kernel
theorem dX12_goes_37 : decode cX12_goes 37 = .ok (.aload_n 0, 1) := by decide +kernel
theorem dX12_goes_38 : decode cX12_goes 38 = .ok (.dup, 1) := by decide +kernel
theorem dX12_goes_39 : decode cX12_goes 39 = .ok (.getfield 172, 3) := by decide +kernel
theorem dX12_goes_42 : decode cX12_goes 42 = .ok (.iconst 1, 1) := by decide +kernel
theorem dX12_goes_43 : decode cX12_goes 43 = .ok (.iadd, 1) := by decide +kernel
theorem dX12_goes_44 : decode cX12_goes 44 = .ok (.putfield 172, 3) := by decide +kernel
theorem dX12_goes_47 : decode cX12_goes 47 = .ok (.goto (-47), 3) := by decide +kernel
theorem dX12_goes_50 : decode cX12_goes 50 = .ok (.aload_n 0, 1) := by decide +kernel
theorem dX12_goes_51 : decode cX12_goes 51 = .ok (.aload_n 0, 1) := by decide +kernel
theorem dX12_goes_52 : decode cX12_goes 52 = .ok (.getfield 172, 3) := by decide +kernel
theorem dX12_goes_55 : decode cX12_goes 55 = .ok (.putfield 179, 3) := by decide +kernel
theorem dX12_goes_58 : decode cX12_goes 58 = .ok (.aload_n 0, 1) := by decide +kernel
theorem dX12_goes_59 : decode cX12_goes 59 = .ok (.lconst 0, 1) := by decide +kernel
theorem dX12_goes_60 : decode cX12_goes 60 = .ok (.putfield 182, 3) := by decide +kernel
theorem dX12_goes_63 : decode cX12_goes 63 = .ok (.aload_n 0, 1) := by decide +kernel
theorem dX12_goes_64 : decode cX12_goes 64 = .ok (.iconst 0, 1) := by decide +kernel
theorem dX12_goes_65 : decode cX12_goes 65 = .ok (.putfield 186, 3) := by decide +kernel
theorem dX12_goes_68 : decode cX12_goes 68 = .ok (.aload_n 0, 1) := by decide +kernel
theorem dX12_goes_69 : decode cX12_goes 69 = .ok (.aload_n 0, 1) := by decide +kernel
theorem dX12_goes_70 : decode cX12_goes 70 = .ok (.getfield 172, 3) := by decide +kernel
theorem dX12_goes_73 : decode cX12_goes 73 = .ok (.invokevirtual 175, 3) := by decide +kernel
theorem dX12_goes_76 : decode cX12_goes 76 = .ok (.istore_n 1, 1) := by decide +kernel
theorem dX12_goes_77 : decode cX12_goes 77 = .ok (.aload_n 0, 1) := by decide +kernel
theorem dX12_goes_78 : decode cX12_goes 78 = .ok (.iload_n 1, 1) := by decide +kernel
theorem dX12_goes_79 : decode cX12_goes 79 = .ok (.putfield 189, 3) := by decide +kernel
theorem dX12_goes_82 : decode cX12_goes 82 = .ok (.aload_n 0, 1) := by decide +kernel
theorem dX12_goes_83 : decode cX12_goes 83 = .ok (.getfield 172, 3) := by decide +kernel
theorem dX12_goes_86 : decode cX12_goes 86 = .ok (.aload_n 0, 1) := by decide +kernel
theorem dX12_goes_87 : decode cX12_goes 87 = .ok (.getfield 169, 3) := by decide +kernel
theorem dX12_goes_90 : decode cX12_goes 90 = .ok (.if_icmp .lt 11, 3) := by decide +kernel
theorem dX12_goes_93 : decode cX12_goes 93 = .ok (.aload_n 0, 1) := by decide +kernel
theorem dX12_goes_94 : decode cX12_goes 94 = .ok (.iconst 0, 1) := by decide +kernel
theorem dX12_goes_95 : decode cX12_goes 95 = .ok (.putfield 192, 3) := by decide +kernel
theorem dX12_goes_98 : decode cX12_goes 98 = .ok (.goto 233, 3) := by decide +kernel
theorem dX12_goes_101 : decode cX12_goes 101 = .ok (.iload_n 1, 1) := by decide +kernel
theorem dX12_goes_102 : decode cX12_goes 102 = .ok (.invokestatic 195, 3) := by decide +kernel
theorem dX12_goes_105 : decode cX12_goes 105 = .ok (.ifCond .eq 75, 3) := by decide +kernel
theorem dX12_goes_108 : decode cX12_goes 108 = .ok (.aload_n 0, 1) := by decide +kernel
theorem dX12_goes_109 : decode cX12_goes 109 = .ok (.aload_n 0, 1) := by decide +kernel
theorem dX12_goes_110 : decode cX12_goes 110 = .ok (.getfield 172, 3) := by decide +kernel
theorem dX12_goes_113 : decode cX12_goes 113 = .ok (.invokevirtual 175, 3) := by decide +kernel
theorem dX12_goes_116 : decode cX12_goes 116 = .ok (.invokestatic 195, 3) := by decide +kernel
theorem dX12_goes_119 : decode cX12_goes 119 = .ok (.ifCond .eq 53, 3) := by decide +kernel
theorem dX12_goes_122 : decode cX12_goes 122 = .ok (.aload_n 0, 1) := by decide +kernel
theorem dX12_goes_123 : decode cX12_goes 123 = .ok (.getfield 172, 3) := by decide +kernel
theorem dX12_goes_126 : decode cX12_goes 126 = .ok (.aload_n 0, 1) := by decide +kernel
theorem dX12_goes_127 : decode cX12_goes 127 = .ok (.getfield 179, 3) := by decide +kernel
theorem dX12_goes_130 : decode cX12_goes 130 = .ok (.isub, 1) := by decide +kernel
theorem dX12_goes_131 : decode cX12_goes 131 = .ok (.bipush 6, 2) := by decide +kernel
theorem dX12_goes_133 : decode cX12_goes 133 = .ok (.if_icmp .ge 26, 3) := by decide +kernel
theorem dX12_goes_136 : decode cX12_goes 136 = .ok (.aload_n 0, 1) := by decide +kernel
theorem dX12_goes_137 : decode cX12_goes 137 = .ok (.aload_n 0, 1) := by decide +kernel
theorem dX12_goes_138 : decode cX12_goes 138 = .ok (.getfield 182, 3) := by decide +kernel
theorem dX12_goes_141 : decode cX12_goes 141 = .ok (.iconst 5, 1) := by decide +kernel
theorem dX12_goes_142 : decode cX12_goes 142 = .ok (.lshl, 1) := by decide +kernel
theorem dX12_goes_143 : decode cX12_goes 143 = .ok (.aload_n 0, 1) := by decide +kernel
theorem dX12_goes_144 : decode cX12_goes 144 = .ok (.aload_n 0, 1) := by decide +kernel
theorem dX12_goes_145 : decode cX12_goes 145 = .ok (.getfield 172, 3) := by decide +kernel
theorem dX12_goes_148 : decode cX12_goes 148 = .ok (.invokevirtual 175, 3) := by decide +kernel
theorem dX12_goes_151 : decode cX12_goes 151 = .ok (.bipush 96, 2) := by decide +kernel
theorem dX12_goes_153 : decode cX12_goes 153 = .ok (.isub, 1) := by decide +kernel
theorem dX12_goes_154 : decode cX12_goes 154 = .ok (.i2l, 1) := by decide +kernel
theorem dX12_goes_155 : decode cX12_goes 155 = .ok (.lor, 1) := by decide +kernel
theorem dX12_goes_156 : decode cX12_goes 156 = .ok (.putfield 182, 3) := by decide +kernel
theorem dX12_goes_159 : decode cX12_goes 159 = .ok (.aload_n 0, 1) := by decide +kernel
theorem dX12_goes_160 : decode cX12_goes 160 = .ok (.dup, 1) := by decide +kernel
theorem dX12_goes_161 : decode cX12_goes 161 = .ok (.getfield 172, 3) := by decide +kernel
theorem dX12_goes_164 : decode cX12_goes 164 = .ok (.iconst 1, 1) := by decide +kernel
theorem dX12_goes_165 : decode cX12_goes 165 = .ok (.iadd, 1) := by decide +kernel
theorem dX12_goes_166 : decode cX12_goes 166 = .ok (.putfield 172, 3) := by decide +kernel
theorem dX12_goes_169 : decode cX12_goes 169 = .ok (.goto (-61), 3) := by decide +kernel
theorem dX12_goes_172 : decode cX12_goes 172 = .ok (.aload_n 0, 1) := by decide +kernel
theorem dX12_goes_173 : decode cX12_goes 173 = .ok (.iconst 1, 1) := by decide +kernel
theorem dX12_goes_174 : decode cX12_goes 174 = .ok (.putfield 192, 3) := by decide +kernel
theorem dX12_goes_177 : decode cX12_goes 177 = .ok (.goto 154, 3) := by decide +kernel
theorem dX12_goes_180 : decode cX12_goes 180 = .ok (.iload_n 1, 1) := by decide +kernel
theorem dX12_goes_181 : decode cX12_goes 181 = .ok (.invokestatic 199, 3) := by decide +kernel
theorem dX12_goes_184 : decode cX12_goes 184 = .ok (.ifCond .eq 74, 3) := by decide +kernel
theorem dX12_goes_187 : decode cX12_goes 187 = .ok (.aload_n 0, 1) := by decide +kernel
theorem dX12_goes_188 : decode cX12_goes 188 = .ok (.aload_n 0, 1) := by decide +kernel
theorem dX12_goes_189 : decode cX12_goes 189 = .ok (.getfield 172, 3) := by decide +kernel
theorem dX12_goes_192 : decode cX12_goes 192 = .ok (.invokevirtual 175, 3) := by decide +kernel
theorem dX12_goes_195 : decode cX12_goes 195 = .ok (.invokestatic 199, 3) := by decide +kernel
theorem dX12_goes_198 : decode cX12_goes 198 = .ok (.ifCond .eq 52, 3) := by decide +kernel
theorem dX12_goes_201 : decode cX12_goes 201 = .ok (.aload_n 0, 1) := by decide +kernel
theorem dX12_goes_202 : decode cX12_goes 202 = .ok (.getfield 172, 3) := by decide +kernel
theorem dX12_goes_205 : decode cX12_goes 205 = .ok (.aload_n 0, 1) := by decide +kernel
theorem dX12_goes_206 : decode cX12_goes 206 = .ok (.getfield 179, 3) := by decide +kernel
theorem dX12_goes_209 : decode cX12_goes 209 = .ok (.isub, 1) := by decide +kernel
theorem dX12_goes_210 : decode cX12_goes 210 = .ok (.iconst 4, 1) := by decide +kernel
theorem dX12_goes_211 : decode cX12_goes 211 = .ok (.if_icmp .ge 26, 3) := by decide +kernel
theorem dX12_goes_214 : decode cX12_goes 214 = .ok (.aload_n 0, 1) := by decide +kernel
theorem dX12_goes_215 : decode cX12_goes 215 = .ok (.bipush 10, 2) := by decide +kernel
theorem dX12_goes_217 : decode cX12_goes 217 = .ok (.aload_n 0, 1) := by decide +kernel
theorem dX12_goes_218 : decode cX12_goes 218 = .ok (.getfield 186, 3) := by decide +kernel
theorem dX12_goes_221 : decode cX12_goes 221 = .ok (.imul, 1) := by decide +kernel
theorem dX12_goes_222 : decode cX12_goes 222 = .ok (.aload_n 0, 1) := by decide +kernel
theorem dX12_goes_223 : decode cX12_goes 223 = .ok (.aload_n 0, 1) := by decide +kernel
theorem dX12_goes_224 : decode cX12_goes 224 = .ok (.getfield 172, 3) := by decide +kernel
theorem dX12_goes_227 : decode cX12_goes 227 = .ok (.invokevirtual 175, 3) := by decide +kernel
theorem dX12_goes_230 : decode cX12_goes 230 = .ok (.iadd, 1) := by decide +kernel
theorem dX12_goes_231 : decode cX12_goes 231 = .ok (.bipush 48, 2) := by decide +kernel
theorem dX12_goes_233 : decode cX12_goes 233 = .ok (.isub, 1) := by decide +kernel
theorem dX12_goes_234 : decode cX12_goes 234 = .ok (.putfield 186, 3) := by decide +kernel
theorem dX12_goes_237 : decode cX12_goes 237 = .ok (.aload_n 0, 1) := by decide +kernel
theorem dX12_goes_238 : decode cX12_goes 238 = .ok (.dup, 1) := by decide +kernel
theorem dX12_goes_239 : decode cX12_goes 239 = .ok (.getfield 172, 3) := by decide +kernel
theorem dX12_goes_242 : decode cX12_goes 242 = .ok (.iconst 1, 1) := by decide +kernel
theorem dX12_goes_243 : decode cX12_goes 243 = .ok (.iadd, 1) := by decide +kernel
theorem dX12_goes_244 : decode cX12_goes 244 = .ok (.putfield 172, 3) := by decide +kernel
theorem dX12_goes_247 : decode cX12_goes 247 = .ok (.goto (-60), 3) := by decide +kernel
theorem dX12_goes_250 : decode cX12_goes 250 = .ok (.aload_n 0, 1) := by decide +kernel
theorem dX12_goes_251 : decode cX12_goes 251 = .ok (.iconst 2, 1) := by decide +kernel
theorem dX12_goes_252 : decode cX12_goes 252 = .ok (.putfield 192, 3) := by decide +kernel
theorem dX12_goes_255 : decode cX12_goes 255 = .ok (.goto 76, 3) := by decide +kernel
theorem dX12_goes_258 : decode cX12_goes 258 = .ok (.aload_n 0, 1) := by decide +kernel
theorem dX12_goes_259 : decode cX12_goes 259 = .ok (.dup, 1) := by decide +kernel
theorem dX12_goes_260 : decode cX12_goes 260 = .ok (.getfield 172, 3) := by decide +kernel
theorem dX12_goes_263 : decode cX12_goes 263 = .ok (.iconst 1, 1) := by decide +kernel
theorem dX12_goes_264 : decode cX12_goes 264 = .ok (.iadd, 1) := by decide +kernel
theorem dX12_goes_265 : decode cX12_goes 265 = .ok (.putfield 172, 3) := by decide +kernel
theorem dX12_goes_268 : decode cX12_goes 268 = .ok (.aload_n 0, 1) := by decide +kernel
theorem dX12_goes_269 : decode cX12_goes 269 = .ok (.iload_n 1, 1) := by decide +kernel
theorem dX12_goes_270 : decode cX12_goes 270 = .ok (.bipush 59, 2) := by decide +kernel
theorem dX12_goes_272 : decode cX12_goes 272 = .ok (.if_icmp .eq 51, 3) := by decide +kernel
theorem dX12_goes_275 : decode cX12_goes 275 = .ok (.iload_n 1, 1) := by decide +kernel
theorem dX12_goes_276 : decode cX12_goes 276 = .ok (.bipush 40, 2) := by decide +kernel
theorem dX12_goes_278 : decode cX12_goes 278 = .ok (.if_icmp .eq 45, 3) := by decide +kernel
theorem dX12_goes_281 : decode cX12_goes 281 = .ok (.iload_n 1, 1) := by decide +kernel
theorem dX12_goes_282 : decode cX12_goes 282 = .ok (.bipush 41, 2) := by decide +kernel
theorem dX12_goes_284 : decode cX12_goes 284 = .ok (.if_icmp .eq 39, 3) := by decide +kernel
theorem dX12_goes_287 : decode cX12_goes 287 = .ok (.iload_n 1, 1) := by decide +kernel
theorem dX12_goes_288 : decode cX12_goes 288 = .ok (.bipush 43, 2) := by decide +kernel
theorem dX12_goes_290 : decode cX12_goes 290 = .ok (.if_icmp .eq 33, 3) := by decide +kernel
theorem dX12_goes_293 : decode cX12_goes 293 = .ok (.iload_n 1, 1) := by decide +kernel
theorem dX12_goes_294 : decode cX12_goes 294 = .ok (.bipush 45, 2) := by decide +kernel
theorem dX12_goes_296 : decode cX12_goes 296 = .ok (.if_icmp .eq 27, 3) := by decide +kernel
theorem dX12_goes_299 : decode cX12_goes 299 = .ok (.iload_n 1, 1) := by decide +kernel
theorem dX12_goes_300 : decode cX12_goes 300 = .ok (.bipush 42, 2) := by decide +kernel
theorem dX12_goes_302 : decode cX12_goes 302 = .ok (.if_icmp .eq 21, 3) := by decide +kernel
theorem dX12_goes_305 : decode cX12_goes 305 = .ok (.iload_n 1, 1) := by decide +kernel
theorem dX12_goes_306 : decode cX12_goes 306 = .ok (.bipush 47, 2) := by decide +kernel
theorem dX12_goes_308 : decode cX12_goes 308 = .ok (.if_icmp .eq 15, 3) := by decide +kernel
theorem dX12_goes_311 : decode cX12_goes 311 = .ok (.iload_n 1, 1) := by decide +kernel
theorem dX12_goes_312 : decode cX12_goes 312 = .ok (.bipush 60, 2) := by decide +kernel
theorem dX12_goes_314 : decode cX12_goes 314 = .ok (.if_icmp .eq 9, 3) := by decide +kernel
theorem dX12_goes_317 : decode cX12_goes 317 = .ok (.iload_n 1, 1) := by decide +kernel
theorem dX12_goes_318 : decode cX12_goes 318 = .ok (.bipush 61, 2) := by decide +kernel
theorem dX12_goes_320 : decode cX12_goes 320 = .ok (.if_icmp .ne 7, 3) := by decide +kernel
theorem dX12_goes_323 : decode cX12_goes 323 = .ok (.iconst 3, 1) := by decide +kernel
theorem dX12_goes_324 : decode cX12_goes 324 = .ok (.goto 4, 3) := by decide +kernel
theorem dX12_goes_327 : decode cX12_goes 327 = .ok (.iconst 4, 1) := by decide +kernel
theorem dX12_goes_328 : decode cX12_goes 328 = .ok (.putfield 192, 3) := by decide +kernel
theorem dX12_goes_331 : decode cX12_goes 331 = .ok (.aload_n 0, 1) := by decide +kernel
theorem dX12_goes_332 : decode cX12_goes 332 = .ok (.aload_n 0, 1) := by decide +kernel
theorem dX12_goes_333 : decode cX12_goes 333 = .ok (.getfield 172, 3) := by decide +kernel
theorem dX12_goes_336 : decode cX12_goes 336 = .ok (.aload_n 0, 1) := by decide +kernel
theorem dX12_goes_337 : decode cX12_goes 337 = .ok (.getfield 179, 3) := by decide +kernel
theorem dX12_goes_340 : decode cX12_goes 340 = .ok (.isub, 1) := by decide +kernel
theorem dX12_goes_341 : decode cX12_goes 341 = .ok (.putfield 202, 3) := by decide +kernel
theorem dX12_goes_344 : decode cX12_goes 344 = .ok (.return_, 1) := by decide +kernel
theorem dX12_spelled_0 : decode cX12_spelled 0 = .ok (.iload_n 0, 1) := by decide +kernel
theorem dX12_spelled_1 : decode cX12_spelled 1 = .ok (.i2l, 1) := by decide +kernel
theorem dX12_spelled_2 : decode cX12_spelled 2 = .ok (.ldc2_w 205, 3) := by decide +kernel
theorem dX12_spelled_5 : decode cX12_spelled 5 = .ok (.lsub, 1) := by decide +kernel
theorem dX12_spelled_6 : decode cX12_spelled 6 = .ok (.iconst 5, 1) := by decide +kernel
theorem dX12_spelled_7 : decode cX12_spelled 7 = .ok (.lshl, 1) := by decide +kernel
theorem dX12_spelled_8 : decode cX12_spelled 8 = .ok (.iload_n 1, 1) := by decide +kernel
theorem dX12_spelled_9 : decode cX12_spelled 9 = .ok (.bipush 96, 2) := by decide +kernel
theorem dX12_spelled_11 : decode cX12_spelled 11 = .ok (.isub, 1) := by decide +kernel
theorem dX12_spelled_12 : decode cX12_spelled 12 = .ok (.i2l, 1) := by decide +kernel
theorem dX12_spelled_13 : decode cX12_spelled 13 = .ok (.lor, 1) := by decide +kernel
theorem dX12_spelled_14 : decode cX12_spelled 14 = .ok (.lstore 6, 2) := by decide +kernel
theorem dX12_spelled_16 : decode cX12_spelled 16 = .ok (.iload_n 2, 1) := by decide +kernel
theorem dX12_spelled_17 : decode cX12_spelled 17 = .ok (.ifCond .eq 15, 3) := by decide +kernel
theorem dX12_spelled_20 : decode cX12_spelled 20 = .ok (.lload 6, 2) := by decide +kernel
theorem dX12_spelled_22 : decode cX12_spelled 22 = .ok (.iconst 5, 1) := by decide +kernel
theorem dX12_spelled_23 : decode cX12_spelled 23 = .ok (.lshl, 1) := by decide +kernel
theorem dX12_spelled_24 : decode cX12_spelled 24 = .ok (.iload_n 2, 1) := by decide +kernel
theorem dX12_spelled_25 : decode cX12_spelled 25 = .ok (.bipush 96, 2) := by decide +kernel
theorem dX12_spelled_27 : decode cX12_spelled 27 = .ok (.isub, 1) := by decide +kernel
theorem dX12_spelled_28 : decode cX12_spelled 28 = .ok (.i2l, 1) := by decide +kernel
theorem dX12_spelled_29 : decode cX12_spelled 29 = .ok (.lor, 1) := by decide +kernel
theorem dX12_spelled_30 : decode cX12_spelled 30 = .ok (.lstore 6, 2) := by decide +kernel
theorem dX12_spelled_32 : decode cX12_spelled 32 = .ok (.iload_n 3, 1) := by decide +kernel
theorem dX12_spelled_33 : decode cX12_spelled 33 = .ok (.ifCond .eq 15, 3) := by decide +kernel
theorem dX12_spelled_36 : decode cX12_spelled 36 = .ok (.lload 6, 2) := by decide +kernel
theorem dX12_spelled_38 : decode cX12_spelled 38 = .ok (.iconst 5, 1) := by decide +kernel
theorem dX12_spelled_39 : decode cX12_spelled 39 = .ok (.lshl, 1) := by decide +kernel
theorem dX12_spelled_40 : decode cX12_spelled 40 = .ok (.iload_n 3, 1) := by decide +kernel
theorem dX12_spelled_41 : decode cX12_spelled 41 = .ok (.bipush 96, 2) := by decide +kernel
theorem dX12_spelled_43 : decode cX12_spelled 43 = .ok (.isub, 1) := by decide +kernel
theorem dX12_spelled_44 : decode cX12_spelled 44 = .ok (.i2l, 1) := by decide +kernel
theorem dX12_spelled_45 : decode cX12_spelled 45 = .ok (.lor, 1) := by decide +kernel
theorem dX12_spelled_46 : decode cX12_spelled 46 = .ok (.lstore 6, 2) := by decide +kernel
theorem dX12_spelled_48 : decode cX12_spelled 48 = .ok (.iload 4, 2) := by decide +kernel
theorem dX12_spelled_50 : decode cX12_spelled 50 = .ok (.ifCond .eq 16, 3) := by decide +kernel
theorem dX12_spelled_53 : decode cX12_spelled 53 = .ok (.lload 6, 2) := by decide +kernel
theorem dX12_spelled_55 : decode cX12_spelled 55 = .ok (.iconst 5, 1) := by decide +kernel
theorem dX12_spelled_56 : decode cX12_spelled 56 = .ok (.lshl, 1) := by decide +kernel
theorem dX12_spelled_57 : decode cX12_spelled 57 = .ok (.iload 4, 2) := by decide +kernel
theorem dX12_spelled_59 : decode cX12_spelled 59 = .ok (.bipush 96, 2) := by decide +kernel
theorem dX12_spelled_61 : decode cX12_spelled 61 = .ok (.isub, 1) := by decide +kernel
theorem dX12_spelled_62 : decode cX12_spelled 62 = .ok (.i2l, 1) := by decide +kernel
theorem dX12_spelled_63 : decode cX12_spelled 63 = .ok (.lor, 1) := by decide +kernel
theorem dX12_spelled_64 : decode cX12_spelled 64 = .ok (.lstore 6, 2) := by decide +kernel
theorem dX12_spelled_66 : decode cX12_spelled 66 = .ok (.iload 5, 2) := by decide +kernel
theorem dX12_spelled_68 : decode cX12_spelled 68 = .ok (.ifCond .eq 16, 3) := by decide +kernel
theorem dX12_spelled_71 : decode cX12_spelled 71 = .ok (.lload 6, 2) := by decide +kernel
theorem dX12_spelled_73 : decode cX12_spelled 73 = .ok (.iconst 5, 1) := by decide +kernel
theorem dX12_spelled_74 : decode cX12_spelled 74 = .ok (.lshl, 1) := by decide +kernel
theorem dX12_spelled_75 : decode cX12_spelled 75 = .ok (.iload 5, 2) := by decide +kernel
theorem dX12_spelled_77 : decode cX12_spelled 77 = .ok (.bipush 96, 2) := by decide +kernel
theorem dX12_spelled_79 : decode cX12_spelled 79 = .ok (.isub, 1) := by decide +kernel
theorem dX12_spelled_80 : decode cX12_spelled 80 = .ok (.i2l, 1) := by decide +kernel
theorem dX12_spelled_81 : decode cX12_spelled 81 = .ok (.lor, 1) := by decide +kernel
theorem dX12_spelled_82 : decode cX12_spelled 82 = .ok (.lstore 6, 2) := by decide +kernel
theorem dX12_spelled_84 : decode cX12_spelled 84 = .ok (.lload 6, 2) := by decide +kernel
theorem dX12_spelled_86 : decode cX12_spelled 86 = .ok (.lreturn, 1) := by decide +kernel
theorem dX12_letters_0 : decode cX12_letters 0 = .ok (.iload_n 0, 1) := by decide +kernel
theorem dX12_letters_1 : decode cX12_letters 1 = .ok (.tableswitch 246 0 12 #[67, 81, 94, 109, 123, 138, 151, 164, 178, 192, 205, 221, 234], 67) := by decide +kernel
theorem dX12_letters_68 : decode cX12_letters 68 = .ok (.bipush 114, 2) := by decide +kernel
theorem dX12_letters_70 : decode cX12_letters 70 = .ok (.bipush 97, 2) := by decide +kernel
theorem dX12_letters_72 : decode cX12_letters 72 = .ok (.bipush 110, 2) := by decide +kernel
theorem dX12_letters_74 : decode cX12_letters 74 = .ok (.bipush 107, 2) := by decide +kernel
theorem dX12_letters_76 : decode cX12_letters 76 = .ok (.iconst 0, 1) := by decide +kernel
theorem dX12_letters_77 : decode cX12_letters 77 = .ok (.iconst 0, 1) := by decide +kernel
theorem dX12_letters_78 : decode cX12_letters 78 = .ok (.invokestatic 207, 3) := by decide +kernel
theorem dX12_letters_81 : decode cX12_letters 81 = .ok (.lreturn, 1) := by decide +kernel
theorem dX12_letters_82 : decode cX12_letters 82 = .ok (.bipush 111, 2) := by decide +kernel
theorem dX12_letters_84 : decode cX12_letters 84 = .ok (.bipush 105, 2) := by decide +kernel
theorem dX12_letters_86 : decode cX12_letters 86 = .ok (.bipush 108, 2) := by decide +kernel
theorem dX12_letters_88 : decode cX12_letters 88 = .ok (.iconst 0, 1) := by decide +kernel
theorem dX12_letters_89 : decode cX12_letters 89 = .ok (.iconst 0, 1) := by decide +kernel
theorem dX12_letters_90 : decode cX12_letters 90 = .ok (.iconst 0, 1) := by decide +kernel
theorem dX12_letters_91 : decode cX12_letters 91 = .ok (.invokestatic 207, 3) := by decide +kernel
theorem dX12_letters_94 : decode cX12_letters 94 = .ok (.lreturn, 1) := by decide +kernel
theorem dX12_letters_95 : decode cX12_letters 95 = .ok (.bipush 108, 2) := by decide +kernel
theorem dX12_letters_97 : decode cX12_letters 97 = .ok (.bipush 105, 2) := by decide +kernel
theorem dX12_letters_99 : decode cX12_letters 99 = .ok (.bipush 103, 2) := by decide +kernel
theorem dX12_letters_101 : decode cX12_letters 101 = .ok (.bipush 104, 2) := by decide +kernel
theorem dX12_letters_103 : decode cX12_letters 103 = .ok (.bipush 116, 2) := by decide +kernel
theorem dX12_letters_105 : decode cX12_letters 105 = .ok (.iconst 0, 1) := by decide +kernel
theorem dX12_letters_106 : decode cX12_letters 106 = .ok (.invokestatic 207, 3) := by decide +kernel
theorem dX12_letters_109 : decode cX12_letters 109 = .ok (.lreturn, 1) := by decide +kernel
theorem dX12_letters_110 : decode cX12_letters 110 = .ok (.bipush 104, 2) := by decide +kernel
theorem dX12_letters_112 : decode cX12_letters 112 = .ok (.bipush 111, 2) := by decide +kernel
theorem dX12_letters_114 : decode cX12_letters 114 = .ok (.bipush 117, 2) := by decide +kernel
theorem dX12_letters_116 : decode cX12_letters 116 = .ok (.bipush 114, 2) := by decide +kernel
theorem dX12_letters_118 : decode cX12_letters 118 = .ok (.iconst 0, 1) := by decide +kernel
theorem dX12_letters_119 : decode cX12_letters 119 = .ok (.iconst 0, 1) := by decide +kernel
theorem dX12_letters_120 : decode cX12_letters 120 = .ok (.invokestatic 207, 3) := by decide +kernel
theorem dX12_letters_123 : decode cX12_letters 123 = .ok (.lreturn, 1) := by decide +kernel
theorem dX12_letters_124 : decode cX12_letters 124 = .ok (.bipush 114, 2) := by decide +kernel
theorem dX12_letters_126 : decode cX12_letters 126 = .ok (.bipush 101, 2) := by decide +kernel
theorem dX12_letters_128 : decode cX12_letters 128 = .ok (.bipush 97, 2) := by decide +kernel
theorem dX12_letters_130 : decode cX12_letters 130 = .ok (.bipush 99, 2) := by decide +kernel
theorem dX12_letters_132 : decode cX12_letters 132 = .ok (.bipush 104, 2) := by decide +kernel
theorem dX12_letters_134 : decode cX12_letters 134 = .ok (.iconst 0, 1) := by decide +kernel
theorem dX12_letters_135 : decode cX12_letters 135 = .ok (.invokestatic 207, 3) := by decide +kernel
theorem dX12_letters_138 : decode cX12_letters 138 = .ok (.lreturn, 1) := by decide +kernel
theorem dX12_letters_139 : decode cX12_letters 139 = .ok (.bipush 108, 2) := by decide +kernel
theorem dX12_letters_141 : decode cX12_letters 141 = .ok (.bipush 105, 2) := by decide +kernel
theorem dX12_letters_143 : decode cX12_letters 143 = .ok (.bipush 116, 2) := by decide +kernel
theorem dX12_letters_145 : decode cX12_letters 145 = .ok (.iconst 0, 1) := by decide +kernel
theorem dX12_letters_146 : decode cX12_letters 146 = .ok (.iconst 0, 1) := by decide +kernel
theorem dX12_letters_147 : decode cX12_letters 147 = .ok (.iconst 0, 1) := by decide +kernel
theorem dX12_letters_148 : decode cX12_letters 148 = .ok (.invokestatic 207, 3) := by decide +kernel
theorem dX12_letters_151 : decode cX12_letters 151 = .ok (.lreturn, 1) := by decide +kernel
theorem dX12_letters_152 : decode cX12_letters 152 = .ok (.bipush 115, 2) := by decide +kernel
theorem dX12_letters_154 : decode cX12_letters 154 = .ok (.bipush 101, 2) := by decide +kernel
theorem dX12_letters_156 : decode cX12_letters 156 = .ok (.bipush 97, 2) := by decide +kernel
theorem dX12_letters_158 : decode cX12_letters 158 = .ok (.iconst 0, 1) := by decide +kernel
theorem dX12_letters_159 : decode cX12_letters 159 = .ok (.iconst 0, 1) := by decide +kernel
theorem dX12_letters_160 : decode cX12_letters 160 = .ok (.iconst 0, 1) := by decide +kernel
theorem dX12_letters_161 : decode cX12_letters 161 = .ok (.invokestatic 207, 3) := by decide +kernel
theorem dX12_letters_164 : decode cX12_letters 164 = .ok (.lreturn, 1) := by decide +kernel
theorem dX12_letters_165 : decode cX12_letters 165 = .ok (.bipush 99, 2) := by decide +kernel
theorem dX12_letters_167 : decode cX12_letters 167 = .ok (.bipush 97, 2) := by decide +kernel
theorem dX12_letters_169 : decode cX12_letters 169 = .ok (.bipush 112, 2) := by decide +kernel
theorem dX12_letters_171 : decode cX12_letters 171 = .ok (.bipush 101, 2) := by decide +kernel
theorem dX12_letters_173 : decode cX12_letters 173 = .ok (.iconst 0, 1) := by decide +kernel
theorem dX12_letters_174 : decode cX12_letters 174 = .ok (.iconst 0, 1) := by decide +kernel
theorem dX12_letters_175 : decode cX12_letters 175 = .ok (.invokestatic 207, 3) := by decide +kernel
theorem dX12_letters_178 : decode cX12_letters 178 = .ok (.lreturn, 1) := by decide +kernel
theorem dX12_letters_179 : decode cX12_letters 179 = .ok (.bipush 115, 2) := by decide +kernel
theorem dX12_letters_181 : decode cX12_letters 181 = .ok (.bipush 104, 2) := by decide +kernel
theorem dX12_letters_183 : decode cX12_letters 183 = .ok (.bipush 105, 2) := by decide +kernel
theorem dX12_letters_185 : decode cX12_letters 185 = .ok (.bipush 112, 2) := by decide +kernel
theorem dX12_letters_187 : decode cX12_letters 187 = .ok (.iconst 0, 1) := by decide +kernel
theorem dX12_letters_188 : decode cX12_letters 188 = .ok (.iconst 0, 1) := by decide +kernel
theorem dX12_letters_189 : decode cX12_letters 189 = .ok (.invokestatic 207, 3) := by decide +kernel
theorem dX12_letters_192 : decode cX12_letters 192 = .ok (.lreturn, 1) := by decide +kernel
theorem dX12_letters_193 : decode cX12_letters 193 = .ok (.bipush 102, 2) := by decide +kernel
theorem dX12_letters_195 : decode cX12_letters 195 = .ok (.bipush 111, 2) := by decide +kernel
theorem dX12_letters_197 : decode cX12_letters 197 = .ok (.bipush 103, 2) := by decide +kernel
theorem dX12_letters_199 : decode cX12_letters 199 = .ok (.iconst 0, 1) := by decide +kernel
theorem dX12_letters_200 : decode cX12_letters 200 = .ok (.iconst 0, 1) := by decide +kernel
theorem dX12_letters_201 : decode cX12_letters 201 = .ok (.iconst 0, 1) := by decide +kernel
theorem dX12_letters_202 : decode cX12_letters 202 = .ok (.invokestatic 207, 3) := by decide +kernel
theorem dX12_letters_205 : decode cX12_letters 205 = .ok (.lreturn, 1) := by decide +kernel
theorem dX12_letters_206 : decode cX12_letters 206 = .ok (.bipush 121, 2) := by decide +kernel
theorem dX12_letters_208 : decode cX12_letters 208 = .ok (.bipush 105, 2) := by decide +kernel
theorem dX12_letters_210 : decode cX12_letters 210 = .ok (.bipush 101, 2) := by decide +kernel
theorem dX12_letters_212 : decode cX12_letters 212 = .ok (.bipush 108, 2) := by decide +kernel
theorem dX12_letters_214 : decode cX12_letters 214 = .ok (.bipush 100, 2) := by decide +kernel
theorem dX12_letters_216 : decode cX12_letters 216 = .ok (.bipush 115, 2) := by decide +kernel
theorem dX12_letters_218 : decode cX12_letters 218 = .ok (.invokestatic 207, 3) := by decide +kernel
theorem dX12_letters_221 : decode cX12_letters 221 = .ok (.lreturn, 1) := by decide +kernel
theorem dX12_letters_222 : decode cX12_letters 222 = .ok (.bipush 97, 2) := by decide +kernel
theorem dX12_letters_224 : decode cX12_letters 224 = .ok (.bipush 110, 2) := by decide +kernel
theorem dX12_letters_226 : decode cX12_letters 226 = .ok (.bipush 100, 2) := by decide +kernel
theorem dX12_letters_228 : decode cX12_letters 228 = .ok (.iconst 0, 1) := by decide +kernel
theorem dX12_letters_229 : decode cX12_letters 229 = .ok (.iconst 0, 1) := by decide +kernel
theorem dX12_letters_230 : decode cX12_letters 230 = .ok (.iconst 0, 1) := by decide +kernel
theorem dX12_letters_231 : decode cX12_letters 231 = .ok (.invokestatic 207, 3) := by decide +kernel
theorem dX12_letters_234 : decode cX12_letters 234 = .ok (.lreturn, 1) := by decide +kernel
theorem dX12_letters_235 : decode cX12_letters 235 = .ok (.bipush 111, 2) := by decide +kernel
theorem dX12_letters_237 : decode cX12_letters 237 = .ok (.bipush 114, 2) := by decide +kernel
theorem dX12_letters_239 : decode cX12_letters 239 = .ok (.iconst 0, 1) := by decide +kernel
theorem dX12_letters_240 : decode cX12_letters 240 = .ok (.iconst 0, 1) := by decide +kernel
theorem dX12_letters_241 : decode cX12_letters 241 = .ok (.iconst 0, 1) := by decide +kernel
theorem dX12_letters_242 : decode cX12_letters 242 = .ok (.iconst 0, 1) := by decide +kernel
theorem dX12_letters_243 : decode cX12_letters 243 = .ok (.invokestatic 207, 3) := by decide +kernel
theorem dX12_letters_246 : decode cX12_letters 246 = .ok (.lreturn, 1) := by decide +kernel
theorem dX12_letters_247 : decode cX12_letters 247 = .ok (.bipush 110, 2) := by decide +kernel
theorem dX12_letters_249 : decode cX12_letters 249 = .ok (.bipush 111, 2) := by decide +kernel
theorem dX12_letters_251 : decode cX12_letters 251 = .ok (.bipush 116, 2) := by decide +kernel
theorem dX12_letters_253 : decode cX12_letters 253 = .ok (.iconst 0, 1) := by decide +kernel
theorem dX12_letters_254 : decode cX12_letters 254 = .ok (.iconst 0, 1) := by decide +kernel
theorem dX12_letters_255 : decode cX12_letters 255 = .ok (.iconst 0, 1) := by decide +kernel
theorem dX12_letters_256 : decode cX12_letters 256 = .ok (.invokestatic 207, 3) := by decide +kernel
theorem dX12_letters_259 : decode cX12_letters 259 = .ok (.lreturn, 1) := by decide +kernel
theorem dX12_knownWord_0 : decode cX12_knownWord 0 = .ok (.aload_n 0, 1) := by decide +kernel
theorem dX12_knownWord_1 : decode cX12_knownWord 1 = .ok (.getfield 192, 3) := by decide +kernel
theorem dX12_knownWord_4 : decode cX12_knownWord 4 = .ok (.iconst 1, 1) := by decide +kernel
theorem dX12_knownWord_5 : decode cX12_knownWord 5 = .ok (.if_icmp .ne 12, 3) := by decide +kernel
theorem dX12_knownWord_8 : decode cX12_knownWord 8 = .ok (.aload_n 0, 1) := by decide +kernel
theorem dX12_knownWord_9 : decode cX12_knownWord 9 = .ok (.getfield 202, 3) := by decide +kernel
theorem dX12_knownWord_12 : decode cX12_knownWord 12 = .ok (.bipush 6, 2) := by decide +kernel
theorem dX12_knownWord_14 : decode cX12_knownWord 14 = .ok (.if_icmp .le 5, 3) := by decide +kernel
theorem dX12_knownWord_17 : decode cX12_knownWord 17 = .ok (.iconst (-1), 1) := by decide +kernel
theorem dX12_knownWord_18 : decode cX12_knownWord 18 = .ok (.ireturn, 1) := by decide +kernel
theorem dX12_knownWord_19 : decode cX12_knownWord 19 = .ok (.iconst 0, 1) := by decide +kernel
theorem dX12_knownWord_20 : decode cX12_knownWord 20 = .ok (.istore_n 1, 1) := by decide +kernel
theorem dX12_knownWord_21 : decode cX12_knownWord 21 = .ok (.iload_n 1, 1) := by decide +kernel
theorem dX12_knownWord_22 : decode cX12_knownWord 22 = .ok (.bipush 14, 2) := by decide +kernel
theorem dX12_knownWord_24 : decode cX12_knownWord 24 = .ok (.if_icmp .ge 23, 3) := by decide +kernel
theorem dX12_knownWord_27 : decode cX12_knownWord 27 = .ok (.iload_n 1, 1) := by decide +kernel
theorem dX12_knownWord_28 : decode cX12_knownWord 28 = .ok (.invokestatic 211, 3) := by decide +kernel
theorem dX12_knownWord_31 : decode cX12_knownWord 31 = .ok (.aload_n 0, 1) := by decide +kernel
theorem dX12_knownWord_32 : decode cX12_knownWord 32 = .ok (.getfield 182, 3) := by decide +kernel
theorem dX12_knownWord_35 : decode cX12_knownWord 35 = .ok (.lcmp, 1) := by decide +kernel
theorem dX12_knownWord_36 : decode cX12_knownWord 36 = .ok (.ifCond .ne 5, 3) := by decide +kernel
theorem dX12_knownWord_39 : decode cX12_knownWord 39 = .ok (.iload_n 1, 1) := by decide +kernel
theorem dX12_knownWord_40 : decode cX12_knownWord 40 = .ok (.ireturn, 1) := by decide +kernel
theorem dX12_knownWord_41 : decode cX12_knownWord 41 = .ok (.iinc 1 1, 3) := by decide +kernel
theorem dX12_knownWord_44 : decode cX12_knownWord 44 = .ok (.goto (-23), 3) := by decide +kernel
theorem dX12_knownWord_47 : decode cX12_knownWord 47 = .ok (.iconst (-1), 1) := by decide +kernel
theorem dX12_knownWord_48 : decode cX12_knownWord 48 = .ok (.ireturn, 1) := by decide +kernel
theorem dX12_wrong_0 : decode cX12_wrong 0 = .ok (.aload_n 0, 1) := by decide +kernel
theorem dX12_wrong_1 : decode cX12_wrong 1 = .ok (.getfield 215, 3) := by decide +kernel
theorem dX12_wrong_4 : decode cX12_wrong 4 = .ok (.ifCond .eq 4, 3) := by decide +kernel
theorem dX12_wrong_7 : decode cX12_wrong 7 = .ok (.return_, 1) := by decide +kernel
theorem dX12_wrong_8 : decode cX12_wrong 8 = .ok (.aload_n 0, 1) := by decide +kernel
theorem dX12_wrong_9 : decode cX12_wrong 9 = .ok (.iload_n 1, 1) := by decide +kernel
theorem dX12_wrong_10 : decode cX12_wrong 10 = .ok (.putfield 215, 3) := by decide +kernel
theorem dX12_wrong_13 : decode cX12_wrong 13 = .ok (.aload_n 0, 1) := by decide +kernel
theorem dX12_wrong_14 : decode cX12_wrong 14 = .ok (.aload_n 0, 1) := by decide +kernel
theorem dX12_wrong_15 : decode cX12_wrong 15 = .ok (.getfield 179, 3) := by decide +kernel
theorem dX12_wrong_18 : decode cX12_wrong 18 = .ok (.putfield 54, 3) := by decide +kernel
theorem dX12_wrong_21 : decode cX12_wrong 21 = .ok (.return_, 1) := by decide +kernel
theorem dX12_isGood_0 : decode cX12_isGood 0 = .ok (.aload_n 0, 1) := by decide +kernel
theorem dX12_isGood_1 : decode cX12_isGood 1 = .ok (.getfield 215, 3) := by decide +kernel
theorem dX12_isGood_4 : decode cX12_isGood 4 = .ok (.ifCond .ne 7, 3) := by decide +kernel
theorem dX12_isGood_7 : decode cX12_isGood 7 = .ok (.iconst 1, 1) := by decide +kernel
theorem dX12_isGood_8 : decode cX12_isGood 8 = .ok (.goto 4, 3) := by decide +kernel
theorem dX12_isGood_11 : decode cX12_isGood 11 = .ok (.iconst 0, 1) := by decide +kernel
theorem dX12_isGood_12 : decode cX12_isGood 12 = .ok (.ireturn, 1) := by decide +kernel
theorem dX12_isSign_0 : decode cX12_isSign 0 = .ok (.aload_n 0, 1) := by decide +kernel
theorem dX12_isSign_1 : decode cX12_isSign 1 = .ok (.getfield 192, 3) := by decide +kernel
theorem dX12_isSign_4 : decode cX12_isSign 4 = .ok (.iconst 3, 1) := by decide +kernel
theorem dX12_isSign_5 : decode cX12_isSign 5 = .ok (.if_icmp .ne 15, 3) := by decide +kernel
theorem dX12_isSign_8 : decode cX12_isSign 8 = .ok (.aload_n 0, 1) := by decide +kernel
theorem dX12_isSign_9 : decode cX12_isSign 9 = .ok (.getfield 189, 3) := by decide +kernel
theorem dX12_isSign_12 : decode cX12_isSign 12 = .ok (.iload_n 1, 1) := by decide +kernel
theorem dX12_isSign_13 : decode cX12_isSign 13 = .ok (.if_icmp .ne 7, 3) := by decide +kernel
theorem dX12_isSign_16 : decode cX12_isSign 16 = .ok (.iconst 1, 1) := by decide +kernel
theorem dX12_isSign_17 : decode cX12_isSign 17 = .ok (.goto 4, 3) := by decide +kernel
theorem dX12_isSign_20 : decode cX12_isSign 20 = .ok (.iconst 0, 1) := by decide +kernel
theorem dX12_isSign_21 : decode cX12_isSign 21 = .ok (.ireturn, 1) := by decide +kernel
theorem dX12_need_0 : decode cX12_need 0 = .ok (.aload_n 0, 1) := by decide +kernel
theorem dX12_need_1 : decode cX12_need 1 = .ok (.invokevirtual 218, 3) := by decide +kernel
theorem dX12_need_4 : decode cX12_need 4 = .ok (.ifCond .ne 4, 3) := by decide +kernel
theorem dX12_need_7 : decode cX12_need 7 = .ok (.return_, 1) := by decide +kernel
theorem dX12_need_8 : decode cX12_need 8 = .ok (.iload_n 1, 1) := by decide +kernel
theorem dX12_need_9 : decode cX12_need 9 = .ok (.ifCond .eq 10, 3) := by decide +kernel
theorem dX12_need_12 : decode cX12_need 12 = .ok (.aload_n 0, 1) := by decide +kernel
theorem dX12_need_13 : decode cX12_need 13 = .ok (.invokevirtual 222, 3) := by decide +kernel
theorem dX12_need_16 : decode cX12_need 16 = .ok (.goto 8, 3) := by decide +kernel
theorem dX12_need_19 : decode cX12_need 19 = .ok (.aload_n 0, 1) := by decide +kernel
theorem dX12_need_20 : decode cX12_need 20 = .ok (.iconst 1, 1) := by decide +kernel
theorem dX12_need_21 : decode cX12_need 21 = .ok (.invokevirtual 225, 3) := by decide +kernel
theorem dX12_need_24 : decode cX12_need 24 = .ok (.return_, 1) := by decide +kernel
theorem dX12_numberHere_0 : decode cX12_numberHere 0 = .ok (.aload_n 0, 1) := by decide +kernel
theorem dX12_numberHere_1 : decode cX12_numberHere 1 = .ok (.invokevirtual 218, 3) := by decide +kernel
theorem dX12_numberHere_4 : decode cX12_numberHere 4 = .ok (.ifCond .ne 5, 3) := by decide +kernel
theorem dX12_numberHere_7 : decode cX12_numberHere 7 = .ok (.iconst 0, 1) := by decide +kernel
theorem dX12_numberHere_8 : decode cX12_numberHere 8 = .ok (.ireturn, 1) := by decide +kernel
theorem dX12_numberHere_9 : decode cX12_numberHere 9 = .ok (.aload_n 0, 1) := by decide +kernel
theorem dX12_numberHere_10 : decode cX12_numberHere 10 = .ok (.getfield 192, 3) := by decide +kernel
theorem dX12_numberHere_13 : decode cX12_numberHere 13 = .ok (.iconst 2, 1) := by decide +kernel
theorem dX12_numberHere_14 : decode cX12_numberHere 14 = .ok (.if_icmp .eq 11, 3) := by decide +kernel
theorem dX12_numberHere_17 : decode cX12_numberHere 17 = .ok (.aload_n 0, 1) := by decide +kernel
theorem dX12_numberHere_18 : decode cX12_numberHere 18 = .ok (.iconst 1, 1) := by decide +kernel
theorem dX12_numberHere_19 : decode cX12_numberHere 19 = .ok (.invokevirtual 225, 3) := by decide +kernel
theorem dX12_numberHere_22 : decode cX12_numberHere 22 = .ok (.goto 32, 3) := by decide +kernel
theorem dX12_numberHere_25 : decode cX12_numberHere 25 = .ok (.aload_n 0, 1) := by decide +kernel
theorem dX12_numberHere_26 : decode cX12_numberHere 26 = .ok (.getfield 202, 3) := by decide +kernel
theorem dX12_numberHere_29 : decode cX12_numberHere 29 = .ok (.iconst 4, 1) := by decide +kernel
theorem dX12_numberHere_30 : decode cX12_numberHere 30 = .ok (.if_icmp .gt 19, 3) := by decide +kernel
theorem dX12_numberHere_33 : decode cX12_numberHere 33 = .ok (.aload_n 0, 1) := by decide +kernel
theorem dX12_numberHere_34 : decode cX12_numberHere 34 = .ok (.getfield 186, 3) := by decide +kernel
theorem dX12_numberHere_37 : decode cX12_numberHere 37 = .ok (.iload_n 1, 1) := by decide +kernel
theorem dX12_numberHere_38 : decode cX12_numberHere 38 = .ok (.if_icmp .lt 11, 3) := by decide +kernel
theorem dX12_numberHere_41 : decode cX12_numberHere 41 = .ok (.aload_n 0, 1) := by decide +kernel
theorem dX12_numberHere_42 : decode cX12_numberHere 42 = .ok (.getfield 186, 3) := by decide +kernel
theorem dX12_numberHere_45 : decode cX12_numberHere 45 = .ok (.iload_n 2, 1) := by decide +kernel
theorem dX12_numberHere_46 : decode cX12_numberHere 46 = .ok (.if_icmp .le 8, 3) := by decide +kernel
theorem dX12_numberHere_49 : decode cX12_numberHere 49 = .ok (.aload_n 0, 1) := by decide +kernel
theorem dX12_numberHere_50 : decode cX12_numberHere 50 = .ok (.iconst 2, 1) := by decide +kernel
theorem dX12_numberHere_51 : decode cX12_numberHere 51 = .ok (.invokevirtual 225, 3) := by decide +kernel
theorem dX12_numberHere_54 : decode cX12_numberHere 54 = .ok (.aload_n 0, 1) := by decide +kernel
theorem dX12_numberHere_55 : decode cX12_numberHere 55 = .ok (.invokevirtual 218, 3) := by decide +kernel
theorem dX12_numberHere_58 : decode cX12_numberHere 58 = .ok (.ireturn, 1) := by decide +kernel
theorem dX12_number_0 : decode cX12_number 0 = .ok (.aload_n 0, 1) := by decide +kernel
theorem dX12_number_1 : decode cX12_number 1 = .ok (.iload_n 1, 1) := by decide +kernel
theorem dX12_number_2 : decode cX12_number 2 = .ok (.iload_n 2, 1) := by decide +kernel
theorem dX12_number_3 : decode cX12_number 3 = .ok (.invokevirtual 228, 3) := by decide +kernel
theorem dX12_number_6 : decode cX12_number 6 = .ok (.ifCond .eq 10, 3) := by decide +kernel
theorem dX12_number_9 : decode cX12_number 9 = .ok (.aload_n 0, 1) := by decide +kernel
theorem dX12_number_10 : decode cX12_number 10 = .ok (.getfield 186, 3) := by decide +kernel
theorem dX12_number_13 : decode cX12_number 13 = .ok (.goto 4, 3) := by decide +kernel
theorem dX12_number_16 : decode cX12_number 16 = .ok (.iconst 0, 1) := by decide +kernel
theorem dX12_number_17 : decode cX12_number 17 = .ok (.istore_n 3, 1) := by decide +kernel
theorem dX12_number_18 : decode cX12_number 18 = .ok (.aload_n 0, 1) := by decide +kernel
theorem dX12_number_19 : decode cX12_number 19 = .ok (.invokevirtual 218, 3) := by decide +kernel
theorem dX12_number_22 : decode cX12_number 22 = .ok (.ifCond .eq 7, 3) := by decide +kernel
theorem dX12_number_25 : decode cX12_number 25 = .ok (.aload_n 0, 1) := by decide +kernel
theorem dX12_number_26 : decode cX12_number 26 = .ok (.invokevirtual 222, 3) := by decide +kernel
theorem dX12_number_29 : decode cX12_number 29 = .ok (.iload_n 3, 1) := by decide +kernel
theorem dX12_number_30 : decode cX12_number 30 = .ok (.ireturn, 1) := by decide +kernel
theorem dX12_puts_0 : decode cX12_puts 0 = .ok (.aload_n 0, 1) := by decide +kernel
theorem dX12_puts_1 : decode cX12_puts 1 = .ok (.getfield 93, 3) := by decide +kernel
theorem dX12_puts_4 : decode cX12_puts 4 = .ok (.aload_n 0, 1) := by decide +kernel
theorem dX12_puts_5 : decode cX12_puts 5 = .ok (.getfield 232, 3) := by decide +kernel
theorem dX12_puts_8 : decode cX12_puts 8 = .ok (.iload_n 1, 1) := by decide +kernel
theorem dX12_puts_9 : decode cX12_puts 9 = .ok (.iastore, 1) := by decide +kernel
theorem dX12_puts_10 : decode cX12_puts 10 = .ok (.aload_n 0, 1) := by decide +kernel
theorem dX12_puts_11 : decode cX12_puts 11 = .ok (.dup, 1) := by decide +kernel
theorem dX12_puts_12 : decode cX12_puts 12 = .ok (.getfield 232, 3) := by decide +kernel
theorem dX12_puts_15 : decode cX12_puts 15 = .ok (.iconst 1, 1) := by decide +kernel
theorem dX12_puts_16 : decode cX12_puts 16 = .ok (.iadd, 1) := by decide +kernel
theorem dX12_puts_17 : decode cX12_puts 17 = .ok (.putfield 232, 3) := by decide +kernel
theorem dX12_puts_20 : decode cX12_puts 20 = .ok (.return_, 1) := by decide +kernel
theorem dX12_isOpen_0 : decode cX12_isOpen 0 = .ok (.iload_n 0, 1) := by decide +kernel
theorem dX12_isOpen_1 : decode cX12_isOpen 1 = .ok (.bipush 14, 2) := by decide +kernel
theorem dX12_isOpen_3 : decode cX12_isOpen 3 = .ok (.if_icmp .lt 7, 3) := by decide +kernel
theorem dX12_isOpen_6 : decode cX12_isOpen 6 = .ok (.iconst 1, 1) := by decide +kernel
theorem dX12_isOpen_7 : decode cX12_isOpen 7 = .ok (.goto 4, 3) := by decide +kernel
theorem dX12_isOpen_10 : decode cX12_isOpen 10 = .ok (.iconst 0, 1) := by decide +kernel
theorem dX12_isOpen_11 : decode cX12_isOpen 11 = .ok (.ireturn, 1) := by decide +kernel
theorem dX12_strength_0 : decode cX12_strength 0 = .ok (.iload_n 0, 1) := by decide +kernel
theorem dX12_strength_1 : decode cX12_strength 1 = .ok (.iconst 5, 1) := by decide +kernel
theorem dX12_strength_2 : decode cX12_strength 2 = .ok (.if_icmp .ne 7, 3) := by decide +kernel
theorem dX12_strength_5 : decode cX12_strength 5 = .ok (.iconst 1, 1) := by decide +kernel
theorem dX12_strength_6 : decode cX12_strength 6 = .ok (.goto 55, 3) := by decide +kernel
theorem dX12_strength_9 : decode cX12_strength 9 = .ok (.iload_n 0, 1) := by decide +kernel
theorem dX12_strength_10 : decode cX12_strength 10 = .ok (.iconst 4, 1) := by decide +kernel
theorem dX12_strength_11 : decode cX12_strength 11 = .ok (.if_icmp .ne 7, 3) := by decide +kernel
theorem dX12_strength_14 : decode cX12_strength 14 = .ok (.iconst 2, 1) := by decide +kernel
theorem dX12_strength_15 : decode cX12_strength 15 = .ok (.goto 46, 3) := by decide +kernel
theorem dX12_strength_18 : decode cX12_strength 18 = .ok (.iload_n 0, 1) := by decide +kernel
theorem dX12_strength_19 : decode cX12_strength 19 = .ok (.iconst 3, 1) := by decide +kernel
theorem dX12_strength_20 : decode cX12_strength 20 = .ok (.if_icmp .ne 7, 3) := by decide +kernel
theorem dX12_strength_23 : decode cX12_strength 23 = .ok (.iconst 3, 1) := by decide +kernel
theorem dX12_strength_24 : decode cX12_strength 24 = .ok (.goto 37, 3) := by decide +kernel
theorem dX12_strength_27 : decode cX12_strength 27 = .ok (.iload_n 0, 1) := by decide +kernel
theorem dX12_strength_28 : decode cX12_strength 28 = .ok (.bipush 6, 2) := by decide +kernel
theorem dX12_strength_30 : decode cX12_strength 30 = .ok (.if_icmp .eq 9, 3) := by decide +kernel
theorem dX12_strength_33 : decode cX12_strength 33 = .ok (.iload_n 0, 1) := by decide +kernel
theorem dX12_strength_34 : decode cX12_strength 34 = .ok (.bipush 7, 2) := by decide +kernel
theorem dX12_strength_36 : decode cX12_strength 36 = .ok (.if_icmp .ne 7, 3) := by decide +kernel
theorem dX12_strength_39 : decode cX12_strength 39 = .ok (.iconst 4, 1) := by decide +kernel
theorem dX12_strength_40 : decode cX12_strength 40 = .ok (.goto 21, 3) := by decide +kernel
theorem dX12_strength_43 : decode cX12_strength 43 = .ok (.iload_n 0, 1) := by decide +kernel
theorem dX12_strength_44 : decode cX12_strength 44 = .ok (.bipush 8, 2) := by decide +kernel
theorem dX12_strength_46 : decode cX12_strength 46 = .ok (.if_icmp .eq 9, 3) := by decide +kernel
theorem dX12_strength_49 : decode cX12_strength 49 = .ok (.iload_n 0, 1) := by decide +kernel
theorem dX12_strength_50 : decode cX12_strength 50 = .ok (.bipush 9, 2) := by decide +kernel
theorem dX12_strength_52 : decode cX12_strength 52 = .ok (.if_icmp .ne 7, 3) := by decide +kernel
theorem dX12_strength_55 : decode cX12_strength 55 = .ok (.iconst 5, 1) := by decide +kernel
theorem dX12_strength_56 : decode cX12_strength 56 = .ok (.goto 5, 3) := by decide +kernel
theorem dX12_strength_59 : decode cX12_strength 59 = .ok (.bipush 6, 2) := by decide +kernel
theorem dX12_strength_61 : decode cX12_strength 61 = .ok (.ireturn, 1) := by decide +kernel
theorem dX12_drops_0 : decode cX12_drops 0 = .ok (.aload_n 0, 1) := by decide +kernel
theorem dX12_drops_1 : decode cX12_drops 1 = .ok (.getfield 235, 3) := by decide +kernel
theorem dX12_drops_4 : decode cX12_drops 4 = .ok (.ifCond .le 64, 3) := by decide +kernel
theorem dX12_drops_7 : decode cX12_drops 7 = .ok (.aload_n 0, 1) := by decide +kernel
theorem dX12_drops_8 : decode cX12_drops 8 = .ok (.getfield 96, 3) := by decide +kernel
theorem dX12_drops_11 : decode cX12_drops 11 = .ok (.aload_n 0, 1) := by decide +kernel
theorem dX12_drops_12 : decode cX12_drops 12 = .ok (.getfield 235, 3) := by decide +kernel
theorem dX12_drops_15 : decode cX12_drops 15 = .ok (.iconst 1, 1) := by decide +kernel
theorem dX12_drops_16 : decode cX12_drops 16 = .ok (.isub, 1) := by decide +kernel
theorem dX12_drops_17 : decode cX12_drops 17 = .ok (.iaload, 1) := by decide +kernel
theorem dX12_drops_18 : decode cX12_drops 18 = .ok (.invokestatic 238, 3) := by decide +kernel
theorem dX12_drops_21 : decode cX12_drops 21 = .ok (.ifCond .ne 47, 3) := by decide +kernel
theorem dX12_drops_24 : decode cX12_drops 24 = .ok (.aload_n 0, 1) := by decide +kernel
theorem dX12_drops_25 : decode cX12_drops 25 = .ok (.getfield 96, 3) := by decide +kernel
theorem dX12_drops_28 : decode cX12_drops 28 = .ok (.aload_n 0, 1) := by decide +kernel
theorem dX12_drops_29 : decode cX12_drops 29 = .ok (.getfield 235, 3) := by decide +kernel
theorem dX12_drops_32 : decode cX12_drops 32 = .ok (.iconst 1, 1) := by decide +kernel
theorem dX12_drops_33 : decode cX12_drops 33 = .ok (.isub, 1) := by decide +kernel
theorem dX12_drops_34 : decode cX12_drops 34 = .ok (.iaload, 1) := by decide +kernel
theorem dX12_drops_35 : decode cX12_drops 35 = .ok (.invokestatic 241, 3) := by decide +kernel
theorem dX12_drops_38 : decode cX12_drops 38 = .ok (.iload_n 1, 1) := by decide +kernel
theorem dX12_drops_39 : decode cX12_drops 39 = .ok (.if_icmp .lt 29, 3) := by decide +kernel
theorem dX12_drops_42 : decode cX12_drops 42 = .ok (.aload_n 0, 1) := by decide +kernel
theorem dX12_drops_43 : decode cX12_drops 43 = .ok (.dup, 1) := by decide +kernel
theorem dX12_drops_44 : decode cX12_drops 44 = .ok (.getfield 235, 3) := by decide +kernel
theorem dX12_drops_47 : decode cX12_drops 47 = .ok (.iconst 1, 1) := by decide +kernel
theorem dX12_drops_48 : decode cX12_drops 48 = .ok (.isub, 1) := by decide +kernel
theorem dX12_drops_49 : decode cX12_drops 49 = .ok (.putfield 235, 3) := by decide +kernel
theorem dX12_drops_52 : decode cX12_drops 52 = .ok (.aload_n 0, 1) := by decide +kernel
theorem dX12_drops_53 : decode cX12_drops 53 = .ok (.aload_n 0, 1) := by decide +kernel
theorem dX12_drops_54 : decode cX12_drops 54 = .ok (.getfield 96, 3) := by decide +kernel
theorem dX12_drops_57 : decode cX12_drops 57 = .ok (.aload_n 0, 1) := by decide +kernel
theorem dX12_drops_58 : decode cX12_drops 58 = .ok (.getfield 235, 3) := by decide +kernel
theorem dX12_drops_61 : decode cX12_drops 61 = .ok (.iaload, 1) := by decide +kernel
theorem dX12_drops_62 : decode cX12_drops 62 = .ok (.invokevirtual 244, 3) := by decide +kernel
theorem dX12_drops_65 : decode cX12_drops 65 = .ok (.goto (-65), 3) := by decide +kernel
theorem dX12_drops_68 : decode cX12_drops 68 = .ok (.return_, 1) := by decide +kernel
theorem dX12_waitsFor_0 : decode cX12_waitsFor 0 = .ok (.aload_n 0, 1) := by decide +kernel
theorem dX12_waitsFor_1 : decode cX12_waitsFor 1 = .ok (.getfield 96, 3) := by decide +kernel
theorem dX12_waitsFor_4 : decode cX12_waitsFor 4 = .ok (.aload_n 0, 1) := by decide +kernel
theorem dX12_waitsFor_5 : decode cX12_waitsFor 5 = .ok (.getfield 235, 3) := by decide +kernel
theorem dX12_waitsFor_8 : decode cX12_waitsFor 8 = .ok (.iload_n 1, 1) := by decide +kernel
theorem dX12_waitsFor_9 : decode cX12_waitsFor 9 = .ok (.iastore, 1) := by decide +kernel
theorem dX12_waitsFor_10 : decode cX12_waitsFor 10 = .ok (.aload_n 0, 1) := by decide +kernel
theorem dX12_waitsFor_11 : decode cX12_waitsFor 11 = .ok (.dup, 1) := by decide +kernel
theorem dX12_waitsFor_12 : decode cX12_waitsFor 12 = .ok (.getfield 235, 3) := by decide +kernel
theorem dX12_waitsFor_15 : decode cX12_waitsFor 15 = .ok (.iconst 1, 1) := by decide +kernel
theorem dX12_waitsFor_16 : decode cX12_waitsFor 16 = .ok (.iadd, 1) := by decide +kernel
theorem dX12_waitsFor_17 : decode cX12_waitsFor 17 = .ok (.putfield 235, 3) := by decide +kernel
theorem dX12_waitsFor_20 : decode cX12_waitsFor 20 = .ok (.return_, 1) := by decide +kernel
theorem dX12_part_0 : decode cX12_part 0 = .ok (.aload_n 0, 1) := by decide +kernel
theorem dX12_part_1 : decode cX12_part 1 = .ok (.invokevirtual 218, 3) := by decide +kernel
theorem dX12_part_4 : decode cX12_part 4 = .ok (.ifCond .ne 4, 3) := by decide +kernel
theorem dX12_part_7 : decode cX12_part 7 = .ok (.return_, 1) := by decide +kernel
theorem dX12_part_8 : decode cX12_part 8 = .ok (.aload_n 0, 1) := by decide +kernel
theorem dX12_part_9 : decode cX12_part 9 = .ok (.getfield 192, 3) := by decide +kernel
theorem dX12_part_12 : decode cX12_part 12 = .ok (.iconst 2, 1) := by decide +kernel
theorem dX12_part_13 : decode cX12_part 13 = .ok (.if_icmp .ne 32, 3) := by decide +kernel
theorem dX12_part_16 : decode cX12_part 16 = .ok (.aload_n 0, 1) := by decide +kernel
theorem dX12_part_17 : decode cX12_part 17 = .ok (.getfield 202, 3) := by decide +kernel
theorem dX12_part_20 : decode cX12_part 20 = .ok (.iconst 4, 1) := by decide +kernel
theorem dX12_part_21 : decode cX12_part 21 = .ok (.if_icmp .le 8, 3) := by decide +kernel
theorem dX12_part_24 : decode cX12_part 24 = .ok (.aload_n 0, 1) := by decide +kernel
theorem dX12_part_25 : decode cX12_part 25 = .ok (.iconst 2, 1) := by decide +kernel
theorem dX12_part_26 : decode cX12_part 26 = .ok (.invokevirtual 225, 3) := by decide +kernel
theorem dX12_part_29 : decode cX12_part 29 = .ok (.aload_n 0, 1) := by decide +kernel
theorem dX12_part_30 : decode cX12_part 30 = .ok (.iconst 1, 1) := by decide +kernel
theorem dX12_part_31 : decode cX12_part 31 = .ok (.invokevirtual 244, 3) := by decide +kernel
theorem dX12_part_34 : decode cX12_part 34 = .ok (.aload_n 0, 1) := by decide +kernel
theorem dX12_part_35 : decode cX12_part 35 = .ok (.aload_n 0, 1) := by decide +kernel
theorem dX12_part_36 : decode cX12_part 36 = .ok (.getfield 186, 3) := by decide +kernel
theorem dX12_part_39 : decode cX12_part 39 = .ok (.invokevirtual 244, 3) := by decide +kernel
theorem dX12_part_42 : decode cX12_part 42 = .ok (.goto 48, 3) := by decide +kernel
theorem dX12_part_45 : decode cX12_part 45 = .ok (.aload_n 0, 1) := by decide +kernel
theorem dX12_part_46 : decode cX12_part 46 = .ok (.getfield 192, 3) := by decide +kernel
theorem dX12_part_49 : decode cX12_part 49 = .ok (.iconst 1, 1) := by decide +kernel
theorem dX12_part_50 : decode cX12_part 50 = .ok (.if_icmp .ne 35, 3) := by decide +kernel
theorem dX12_part_53 : decode cX12_part 53 = .ok (.aload_n 0, 1) := by decide +kernel
theorem dX12_part_54 : decode cX12_part 54 = .ok (.invokevirtual 247, 3) := by decide +kernel
theorem dX12_part_57 : decode cX12_part 57 = .ok (.istore_n 1, 1) := by decide +kernel
theorem dX12_part_58 : decode cX12_part 58 = .ok (.iload_n 1, 1) := by decide +kernel
theorem dX12_part_59 : decode cX12_part 59 = .ok (.ifCond .lt 8, 3) := by decide +kernel
theorem dX12_part_62 : decode cX12_part 62 = .ok (.iload_n 1, 1) := by decide +kernel
theorem dX12_part_63 : decode cX12_part 63 = .ok (.iconst 5, 1) := by decide +kernel
theorem dX12_part_64 : decode cX12_part 64 = .ok (.if_icmp .le 8, 3) := by decide +kernel
theorem dX12_part_67 : decode cX12_part 67 = .ok (.aload_n 0, 1) := by decide +kernel
theorem dX12_part_68 : decode cX12_part 68 = .ok (.iconst 3, 1) := by decide +kernel
theorem dX12_part_69 : decode cX12_part 69 = .ok (.invokevirtual 225, 3) := by decide +kernel
theorem dX12_part_72 : decode cX12_part 72 = .ok (.aload_n 0, 1) := by decide +kernel
theorem dX12_part_73 : decode cX12_part 73 = .ok (.iconst 2, 1) := by decide +kernel
theorem dX12_part_74 : decode cX12_part 74 = .ok (.invokevirtual 244, 3) := by decide +kernel
theorem dX12_part_77 : decode cX12_part 77 = .ok (.aload_n 0, 1) := by decide +kernel
theorem dX12_part_78 : decode cX12_part 78 = .ok (.iload_n 1, 1) := by decide +kernel
theorem dX12_part_79 : decode cX12_part 79 = .ok (.invokevirtual 244, 3) := by decide +kernel
theorem dX12_part_82 : decode cX12_part 82 = .ok (.goto 8, 3) := by decide +kernel
theorem dX12_part_85 : decode cX12_part 85 = .ok (.aload_n 0, 1) := by decide +kernel
theorem dX12_part_86 : decode cX12_part 86 = .ok (.iconst 1, 1) := by decide +kernel
theorem dX12_part_87 : decode cX12_part 87 = .ok (.invokevirtual 225, 3) := by decide +kernel
theorem dX12_part_90 : decode cX12_part 90 = .ok (.aload_n 0, 1) := by decide +kernel
theorem dX12_part_91 : decode cX12_part 91 = .ok (.invokevirtual 218, 3) := by decide +kernel
theorem dX12_part_94 : decode cX12_part 94 = .ok (.ifCond .eq 7, 3) := by decide +kernel
theorem dX12_part_97 : decode cX12_part 97 = .ok (.aload_n 0, 1) := by decide +kernel
theorem dX12_part_98 : decode cX12_part 98 = .ok (.invokevirtual 222, 3) := by decide +kernel
theorem dX12_part_101 : decode cX12_part 101 = .ok (.return_, 1) := by decide +kernel
theorem dX12_deeper_0 : decode cX12_deeper 0 = .ok (.aload_n 0, 1) := by decide +kernel
theorem dX12_deeper_1 : decode cX12_deeper 1 = .ok (.getfield 251, 3) := by decide +kernel
theorem dX12_deeper_4 : decode cX12_deeper 4 = .ok (.bipush 6, 2) := by decide +kernel
theorem dX12_deeper_6 : decode cX12_deeper 6 = .ok (.if_icmp .ge 24, 3) := by decide +kernel
theorem dX12_deeper_9 : decode cX12_deeper 9 = .ok (.aload_n 0, 1) := by decide +kernel
theorem dX12_deeper_10 : decode cX12_deeper 10 = .ok (.dup, 1) := by decide +kernel
theorem dX12_deeper_11 : decode cX12_deeper 11 = .ok (.getfield 251, 3) := by decide +kernel
theorem dX12_deeper_14 : decode cX12_deeper 14 = .ok (.iconst 1, 1) := by decide +kernel
theorem dX12_deeper_15 : decode cX12_deeper 15 = .ok (.iadd, 1) := by decide +kernel
theorem dX12_deeper_16 : decode cX12_deeper 16 = .ok (.putfield 251, 3) := by decide +kernel
theorem dX12_deeper_19 : decode cX12_deeper 19 = .ok (.aload_n 0, 1) := by decide +kernel
theorem dX12_deeper_20 : decode cX12_deeper 20 = .ok (.getfield 99, 3) := by decide +kernel
theorem dX12_deeper_23 : decode cX12_deeper 23 = .ok (.aload_n 0, 1) := by decide +kernel
theorem dX12_deeper_24 : decode cX12_deeper 24 = .ok (.getfield 251, 3) := by decide +kernel
theorem dX12_deeper_27 : decode cX12_deeper 27 = .ok (.iconst 0, 1) := by decide +kernel
theorem dX12_deeper_28 : decode cX12_deeper 28 = .ok (.bastore, 1) := by decide +kernel
theorem dX12_deeper_29 : decode cX12_deeper 29 = .ok (.return_, 1) := by decide +kernel
theorem dX12_deeper_30 : decode cX12_deeper 30 = .ok (.aload_n 0, 1) := by decide +kernel
theorem dX12_deeper_31 : decode cX12_deeper 31 = .ok (.aload_n 0, 1) := by decide +kernel
theorem dX12_deeper_32 : decode cX12_deeper 32 = .ok (.getfield 192, 3) := by decide +kernel
theorem dX12_deeper_35 : decode cX12_deeper 35 = .ok (.iconst 2, 1) := by decide +kernel
theorem dX12_deeper_36 : decode cX12_deeper 36 = .ok (.if_icmp .eq 20, 3) := by decide +kernel
theorem dX12_deeper_39 : decode cX12_deeper 39 = .ok (.aload_n 0, 1) := by decide +kernel
theorem dX12_deeper_40 : decode cX12_deeper 40 = .ok (.getfield 192, 3) := by decide +kernel
theorem dX12_deeper_43 : decode cX12_deeper 43 = .ok (.iconst 1, 1) := by decide +kernel
theorem dX12_deeper_44 : decode cX12_deeper 44 = .ok (.if_icmp .eq 12, 3) := by decide +kernel
theorem dX12_deeper_47 : decode cX12_deeper 47 = .ok (.aload_n 0, 1) := by decide +kernel
theorem dX12_deeper_48 : decode cX12_deeper 48 = .ok (.bipush 40, 2) := by decide +kernel
theorem dX12_deeper_50 : decode cX12_deeper 50 = .ok (.invokevirtual 254, 3) := by decide +kernel
theorem dX12_deeper_53 : decode cX12_deeper 53 = .ok (.ifCond .eq 7, 3) := by decide +kernel
theorem dX12_deeper_56 : decode cX12_deeper 56 = .ok (.iconst 2, 1) := by decide +kernel
theorem dX12_deeper_57 : decode cX12_deeper 57 = .ok (.goto 4, 3) := by decide +kernel
theorem dX12_deeper_60 : decode cX12_deeper 60 = .ok (.iconst 1, 1) := by decide +kernel
theorem dX12_deeper_61 : decode cX12_deeper 61 = .ok (.invokevirtual 225, 3) := by decide +kernel
theorem dX12_deeper_64 : decode cX12_deeper 64 = .ok (.return_, 1) := by decide +kernel
theorem dX12_operand_0 : decode cX12_operand 0 = .ok (.iload_n 1, 1) := by decide +kernel
theorem dX12_operand_1 : decode cX12_operand 1 = .ok (.istore_n 2, 1) := by decide +kernel
theorem dX12_operand_2 : decode cX12_operand 2 = .ok (.iconst 1, 1) := by decide +kernel
theorem dX12_operand_3 : decode cX12_operand 3 = .ok (.istore_n 3, 1) := by decide +kernel
theorem dX12_operand_4 : decode cX12_operand 4 = .ok (.iload_n 3, 1) := by decide +kernel
theorem dX12_operand_5 : decode cX12_operand 5 = .ok (.ifCond .eq 115, 3) := by decide +kernel
theorem dX12_operand_8 : decode cX12_operand 8 = .ok (.aload_n 0, 1) := by decide +kernel
theorem dX12_operand_9 : decode cX12_operand 9 = .ok (.invokevirtual 218, 3) := by decide +kernel
theorem dX12_operand_12 : decode cX12_operand 12 = .ok (.ifCond .eq 108, 3) := by decide +kernel
theorem dX12_operand_15 : decode cX12_operand 15 = .ok (.iconst 0, 1) := by decide +kernel
theorem dX12_operand_16 : decode cX12_operand 16 = .ok (.istore 4, 2) := by decide +kernel
theorem dX12_operand_18 : decode cX12_operand 18 = .ok (.aload_n 0, 1) := by decide +kernel
theorem dX12_operand_19 : decode cX12_operand 19 = .ok (.invokevirtual 218, 3) := by decide +kernel
theorem dX12_operand_22 : decode cX12_operand 22 = .ok (.ifCond .eq 53, 3) := by decide +kernel
theorem dX12_operand_25 : decode cX12_operand 25 = .ok (.iload_n 2, 1) := by decide +kernel
theorem dX12_operand_26 : decode cX12_operand 26 = .ok (.ifCond .eq 49, 3) := by decide +kernel
theorem dX12_operand_29 : decode cX12_operand 29 = .ok (.aload_n 0, 1) := by decide +kernel
theorem dX12_operand_30 : decode cX12_operand 30 = .ok (.invokevirtual 247, 3) := by decide +kernel
theorem dX12_operand_33 : decode cX12_operand 33 = .ok (.bipush 13, 2) := by decide +kernel
theorem dX12_operand_35 : decode cX12_operand 35 = .ok (.if_icmp .ne 40, 3) := by decide +kernel
theorem dX12_operand_38 : decode cX12_operand 38 = .ok (.iload 4, 2) := by decide +kernel
theorem dX12_operand_40 : decode cX12_operand 40 = .ok (.bipush 6, 2) := by decide +kernel
theorem dX12_operand_42 : decode cX12_operand 42 = .ok (.if_icmp .ne 8, 3) := by decide +kernel
theorem dX12_operand_45 : decode cX12_operand 45 = .ok (.aload_n 0, 1) := by decide +kernel
theorem dX12_operand_46 : decode cX12_operand 46 = .ok (.iconst 2, 1) := by decide +kernel
theorem dX12_operand_47 : decode cX12_operand 47 = .ok (.invokevirtual 225, 3) := by decide +kernel
theorem dX12_operand_50 : decode cX12_operand 50 = .ok (.iinc 4 1, 3) := by decide +kernel
theorem dX12_operand_53 : decode cX12_operand 53 = .ok (.aload_n 0, 1) := by decide +kernel
theorem dX12_operand_54 : decode cX12_operand 54 = .ok (.invokevirtual 218, 3) := by decide +kernel
theorem dX12_operand_57 : decode cX12_operand 57 = .ok (.ifCond .ne 6, 3) := by decide +kernel
theorem dX12_operand_60 : decode cX12_operand 60 = .ok (.goto (-42), 3) := by decide +kernel
theorem dX12_operand_63 : decode cX12_operand 63 = .ok (.aload_n 0, 1) := by decide +kernel
theorem dX12_operand_64 : decode cX12_operand 64 = .ok (.iconst 3, 1) := by decide +kernel
theorem dX12_operand_65 : decode cX12_operand 65 = .ok (.invokevirtual 257, 3) := by decide +kernel
theorem dX12_operand_68 : decode cX12_operand 68 = .ok (.aload_n 0, 1) := by decide +kernel
theorem dX12_operand_69 : decode cX12_operand 69 = .ok (.invokevirtual 222, 3) := by decide +kernel
theorem dX12_operand_72 : decode cX12_operand 72 = .ok (.goto (-54), 3) := by decide +kernel
theorem dX12_operand_75 : decode cX12_operand 75 = .ok (.aload_n 0, 1) := by decide +kernel
theorem dX12_operand_76 : decode cX12_operand 76 = .ok (.invokevirtual 218, 3) := by decide +kernel
theorem dX12_operand_79 : decode cX12_operand 79 = .ok (.ifCond .eq 16, 3) := by decide +kernel
theorem dX12_operand_82 : decode cX12_operand 82 = .ok (.aload_n 0, 1) := by decide +kernel
theorem dX12_operand_83 : decode cX12_operand 83 = .ok (.bipush 40, 2) := by decide +kernel
theorem dX12_operand_85 : decode cX12_operand 85 = .ok (.invokevirtual 254, 3) := by decide +kernel
theorem dX12_operand_88 : decode cX12_operand 88 = .ok (.ifCond .eq 7, 3) := by decide +kernel
theorem dX12_operand_91 : decode cX12_operand 91 = .ok (.iconst 1, 1) := by decide +kernel
theorem dX12_operand_92 : decode cX12_operand 92 = .ok (.goto 4, 3) := by decide +kernel
theorem dX12_operand_95 : decode cX12_operand 95 = .ok (.iconst 0, 1) := by decide +kernel
theorem dX12_operand_96 : decode cX12_operand 96 = .ok (.istore_n 3, 1) := by decide +kernel
theorem dX12_operand_97 : decode cX12_operand 97 = .ok (.iload_n 3, 1) := by decide +kernel
theorem dX12_operand_98 : decode cX12_operand 98 = .ok (.ifCond .eq 19, 3) := by decide +kernel
theorem dX12_operand_101 : decode cX12_operand 101 = .ok (.aload_n 0, 1) := by decide +kernel
theorem dX12_operand_102 : decode cX12_operand 102 = .ok (.bipush 14, 2) := by decide +kernel
theorem dX12_operand_104 : decode cX12_operand 104 = .ok (.invokevirtual 257, 3) := by decide +kernel
theorem dX12_operand_107 : decode cX12_operand 107 = .ok (.aload_n 0, 1) := by decide +kernel
theorem dX12_operand_108 : decode cX12_operand 108 = .ok (.invokevirtual 222, 3) := by decide +kernel
theorem dX12_operand_111 : decode cX12_operand 111 = .ok (.aload_n 0, 1) := by decide +kernel
theorem dX12_operand_112 : decode cX12_operand 112 = .ok (.invokevirtual 260, 3) := by decide +kernel
theorem dX12_operand_115 : decode cX12_operand 115 = .ok (.iconst 1, 1) := by decide +kernel
theorem dX12_operand_116 : decode cX12_operand 116 = .ok (.istore_n 2, 1) := by decide +kernel
theorem dX12_operand_117 : decode cX12_operand 117 = .ok (.goto (-113), 3) := by decide +kernel
theorem dX12_operand_120 : decode cX12_operand 120 = .ok (.aload_n 0, 1) := by decide +kernel
theorem dX12_operand_121 : decode cX12_operand 121 = .ok (.invokevirtual 263, 3) := by decide +kernel
theorem dX12_operand_124 : decode cX12_operand 124 = .ok (.return_, 1) := by decide +kernel
theorem dX12_isOpened_0 : decode cX12_isOpened 0 = .ok (.aload_n 0, 1) := by decide +kernel
theorem dX12_isOpened_1 : decode cX12_isOpened 1 = .ok (.getfield 235, 3) := by decide +kernel
theorem dX12_isOpened_4 : decode cX12_isOpened 4 = .ok (.iconst 1, 1) := by decide +kernel
theorem dX12_isOpened_5 : decode cX12_isOpened 5 = .ok (.isub, 1) := by decide +kernel
theorem dX12_isOpened_6 : decode cX12_isOpened 6 = .ok (.istore_n 1, 1) := by decide +kernel
theorem dX12_isOpened_7 : decode cX12_isOpened 7 = .ok (.iload_n 1, 1) := by decide +kernel
theorem dX12_isOpened_8 : decode cX12_isOpened 8 = .ok (.ifCond .lt 21, 3) := by decide +kernel
theorem dX12_isOpened_11 : decode cX12_isOpened 11 = .ok (.aload_n 0, 1) := by decide +kernel
theorem dX12_isOpened_12 : decode cX12_isOpened 12 = .ok (.getfield 96, 3) := by decide +kernel
theorem dX12_isOpened_15 : decode cX12_isOpened 15 = .ok (.iload_n 1, 1) := by decide +kernel
theorem dX12_isOpened_16 : decode cX12_isOpened 16 = .ok (.iaload, 1) := by decide +kernel
theorem dX12_isOpened_17 : decode cX12_isOpened 17 = .ok (.invokestatic 238, 3) := by decide +kernel
theorem dX12_isOpened_20 : decode cX12_isOpened 20 = .ok (.ifCond .ne 9, 3) := by decide +kernel
theorem dX12_isOpened_23 : decode cX12_isOpened 23 = .ok (.iinc 1 (-1), 3) := by decide +kernel
theorem dX12_isOpened_26 : decode cX12_isOpened 26 = .ok (.goto (-19), 3) := by decide +kernel
theorem dX12_isOpened_29 : decode cX12_isOpened 29 = .ok (.iload_n 1, 1) := by decide +kernel
theorem dX12_isOpened_30 : decode cX12_isOpened 30 = .ok (.ifCond .lt 7, 3) := by decide +kernel
theorem dX12_isOpened_33 : decode cX12_isOpened 33 = .ok (.iconst 1, 1) := by decide +kernel
theorem dX12_isOpened_34 : decode cX12_isOpened 34 = .ok (.goto 4, 3) := by decide +kernel
theorem dX12_isOpened_37 : decode cX12_isOpened 37 = .ok (.iconst 0, 1) := by decide +kernel
theorem dX12_isOpened_38 : decode cX12_isOpened 38 = .ok (.ireturn, 1) := by decide +kernel
theorem dX12_closes_0 : decode cX12_closes 0 = .ok (.aload_n 0, 1) := by decide +kernel
theorem dX12_closes_1 : decode cX12_closes 1 = .ok (.iconst 0, 1) := by decide +kernel
theorem dX12_closes_2 : decode cX12_closes 2 = .ok (.invokevirtual 266, 3) := by decide +kernel
theorem dX12_closes_5 : decode cX12_closes 5 = .ok (.aload_n 0, 1) := by decide +kernel
theorem dX12_closes_6 : decode cX12_closes 6 = .ok (.dup, 1) := by decide +kernel
theorem dX12_closes_7 : decode cX12_closes 7 = .ok (.getfield 235, 3) := by decide +kernel
theorem dX12_closes_10 : decode cX12_closes 10 = .ok (.iconst 1, 1) := by decide +kernel
theorem dX12_closes_11 : decode cX12_closes 11 = .ok (.isub, 1) := by decide +kernel
theorem dX12_closes_12 : decode cX12_closes 12 = .ok (.putfield 235, 3) := by decide +kernel
theorem dX12_closes_15 : decode cX12_closes 15 = .ok (.aload_n 0, 1) := by decide +kernel
theorem dX12_closes_16 : decode cX12_closes 16 = .ok (.dup, 1) := by decide +kernel
theorem dX12_closes_17 : decode cX12_closes 17 = .ok (.getfield 251, 3) := by decide +kernel
theorem dX12_closes_20 : decode cX12_closes 20 = .ok (.iconst 1, 1) := by decide +kernel
theorem dX12_closes_21 : decode cX12_closes 21 = .ok (.isub, 1) := by decide +kernel
theorem dX12_closes_22 : decode cX12_closes 22 = .ok (.putfield 251, 3) := by decide +kernel
theorem dX12_closes_25 : decode cX12_closes 25 = .ok (.aload_n 0, 1) := by decide +kernel
theorem dX12_closes_26 : decode cX12_closes 26 = .ok (.invokevirtual 222, 3) := by decide +kernel
theorem dX12_closes_29 : decode cX12_closes 29 = .ok (.return_, 1) := by decide +kernel
theorem dX12_expression_0 : decode cX12_expression 0 = .ok (.aload_n 0, 1) := by decide +kernel
theorem dX12_expression_1 : decode cX12_expression 1 = .ok (.invokevirtual 218, 3) := by decide +kernel
theorem dX12_expression_4 : decode cX12_expression 4 = .ok (.ifCond .ne 4, 3) := by decide +kernel
theorem dX12_expression_7 : decode cX12_expression 7 = .ok (.return_, 1) := by decide +kernel
theorem dX12_expression_8 : decode cX12_expression 8 = .ok (.aload_n 0, 1) := by decide +kernel
theorem dX12_expression_9 : decode cX12_expression 9 = .ok (.iconst 0, 1) := by decide +kernel
theorem dX12_expression_10 : decode cX12_expression 10 = .ok (.putfield 235, 3) := by decide +kernel
theorem dX12_expression_13 : decode cX12_expression 13 = .ok (.aload_n 0, 1) := by decide +kernel
theorem dX12_expression_14 : decode cX12_expression 14 = .ok (.iconst 0, 1) := by decide +kernel
theorem dX12_expression_15 : decode cX12_expression 15 = .ok (.putfield 251, 3) := by decide +kernel
theorem dX12_expression_18 : decode cX12_expression 18 = .ok (.aload_n 0, 1) := by decide +kernel
theorem dX12_expression_19 : decode cX12_expression 19 = .ok (.invokevirtual 260, 3) := by decide +kernel
theorem dX12_expression_22 : decode cX12_expression 22 = .ok (.aload_n 0, 1) := by decide +kernel
theorem dX12_expression_23 : decode cX12_expression 23 = .ok (.iconst 1, 1) := by decide +kernel
theorem dX12_expression_24 : decode cX12_expression 24 = .ok (.invokevirtual 269, 3) := by decide +kernel
theorem dX12_expression_27 : decode cX12_expression 27 = .ok (.iconst 1, 1) := by decide +kernel
theorem dX12_expression_28 : decode cX12_expression 28 = .ok (.istore_n 1, 1) := by decide +kernel
theorem dX12_expression_29 : decode cX12_expression 29 = .ok (.iload_n 1, 1) := by decide +kernel
theorem dX12_expression_30 : decode cX12_expression 30 = .ok (.ifCond .eq 295, 3) := by decide +kernel
theorem dX12_expression_33 : decode cX12_expression 33 = .ok (.aload_n 0, 1) := by decide +kernel
theorem dX12_expression_34 : decode cX12_expression 34 = .ok (.invokevirtual 218, 3) := by decide +kernel
theorem dX12_expression_37 : decode cX12_expression 37 = .ok (.ifCond .eq 288, 3) := by decide +kernel
theorem dX12_expression_40 : decode cX12_expression 40 = .ok (.aload_n 0, 1) := by decide +kernel
theorem dX12_expression_41 : decode cX12_expression 41 = .ok (.invokevirtual 247, 3) := by decide +kernel
theorem dX12_expression_44 : decode cX12_expression 44 = .ok (.istore_n 2, 1) := by decide +kernel
theorem dX12_expression_45 : decode cX12_expression 45 = .ok (.iload_n 2, 1) := by decide +kernel
theorem dX12_expression_46 : decode cX12_expression 46 = .ok (.bipush 11, 2) := by decide +kernel
theorem dX12_expression_48 : decode cX12_expression 48 = .ok (.if_icmp .eq 9, 3) := by decide +kernel
theorem dX12_expression_51 : decode cX12_expression 51 = .ok (.iload_n 2, 1) := by decide +kernel
theorem dX12_expression_52 : decode cX12_expression 52 = .ok (.bipush 12, 2) := by decide +kernel
theorem dX12_expression_54 : decode cX12_expression 54 = .ok (.if_icmp .ne 55, 3) := by decide +kernel
theorem dX12_expression_57 : decode cX12_expression 57 = .ok (.aload_n 0, 1) := by decide +kernel
theorem dX12_expression_58 : decode cX12_expression 58 = .ok (.iload_n 2, 1) := by decide +kernel
theorem dX12_expression_59 : decode cX12_expression 59 = .ok (.bipush 11, 2) := by decide +kernel
theorem dX12_expression_61 : decode cX12_expression 61 = .ok (.if_icmp .ne 7, 3) := by decide +kernel
theorem dX12_expression_64 : decode cX12_expression 64 = .ok (.iconst 2, 1) := by decide +kernel
theorem dX12_expression_65 : decode cX12_expression 65 = .ok (.goto 4, 3) := by decide +kernel
theorem dX12_expression_68 : decode cX12_expression 68 = .ok (.iconst 1, 1) := by decide +kernel
theorem dX12_expression_69 : decode cX12_expression 69 = .ok (.invokevirtual 266, 3) := by decide +kernel
theorem dX12_expression_72 : decode cX12_expression 72 = .ok (.aload_n 0, 1) := by decide +kernel
theorem dX12_expression_73 : decode cX12_expression 73 = .ok (.iload_n 2, 1) := by decide +kernel
theorem dX12_expression_74 : decode cX12_expression 74 = .ok (.bipush 11, 2) := by decide +kernel
theorem dX12_expression_76 : decode cX12_expression 76 = .ok (.if_icmp .ne 7, 3) := by decide +kernel
theorem dX12_expression_79 : decode cX12_expression 79 = .ok (.iconst 4, 1) := by decide +kernel
theorem dX12_expression_80 : decode cX12_expression 80 = .ok (.goto 4, 3) := by decide +kernel
theorem dX12_expression_83 : decode cX12_expression 83 = .ok (.iconst 5, 1) := by decide +kernel
theorem dX12_expression_84 : decode cX12_expression 84 = .ok (.invokevirtual 257, 3) := by decide +kernel
theorem dX12_expression_87 : decode cX12_expression 87 = .ok (.aload_n 0, 1) := by decide +kernel
theorem dX12_expression_88 : decode cX12_expression 88 = .ok (.getfield 99, 3) := by decide +kernel
theorem dX12_expression_91 : decode cX12_expression 91 = .ok (.aload_n 0, 1) := by decide +kernel
theorem dX12_expression_92 : decode cX12_expression 92 = .ok (.getfield 251, 3) := by decide +kernel
theorem dX12_expression_95 : decode cX12_expression 95 = .ok (.iconst 0, 1) := by decide +kernel
theorem dX12_expression_96 : decode cX12_expression 96 = .ok (.bastore, 1) := by decide +kernel
theorem dX12_expression_97 : decode cX12_expression 97 = .ok (.aload_n 0, 1) := by decide +kernel
theorem dX12_expression_98 : decode cX12_expression 98 = .ok (.invokevirtual 222, 3) := by decide +kernel
theorem dX12_expression_101 : decode cX12_expression 101 = .ok (.aload_n 0, 1) := by decide +kernel
theorem dX12_expression_102 : decode cX12_expression 102 = .ok (.iconst 1, 1) := by decide +kernel
theorem dX12_expression_103 : decode cX12_expression 103 = .ok (.invokevirtual 269, 3) := by decide +kernel
theorem dX12_expression_106 : decode cX12_expression 106 = .ok (.goto 216, 3) := by decide +kernel
theorem dX12_expression_109 : decode cX12_expression 109 = .ok (.aload_n 0, 1) := by decide +kernel
theorem dX12_expression_110 : decode cX12_expression 110 = .ok (.bipush 60, 2) := by decide +kernel
theorem dX12_expression_112 : decode cX12_expression 112 = .ok (.invokevirtual 254, 3) := by decide +kernel
theorem dX12_expression_115 : decode cX12_expression 115 = .ok (.ifCond .ne 12, 3) := by decide +kernel
theorem dX12_expression_118 : decode cX12_expression 118 = .ok (.aload_n 0, 1) := by decide +kernel
theorem dX12_expression_119 : decode cX12_expression 119 = .ok (.bipush 61, 2) := by decide +kernel
theorem dX12_expression_121 : decode cX12_expression 121 = .ok (.invokevirtual 254, 3) := by decide +kernel
theorem dX12_expression_124 : decode cX12_expression 124 = .ok (.ifCond .eq 62, 3) := by decide +kernel
theorem dX12_expression_127 : decode cX12_expression 127 = .ok (.aload_n 0, 1) := by decide +kernel
theorem dX12_expression_128 : decode cX12_expression 128 = .ok (.getfield 99, 3) := by decide +kernel
theorem dX12_expression_131 : decode cX12_expression 131 = .ok (.aload_n 0, 1) := by decide +kernel
theorem dX12_expression_132 : decode cX12_expression 132 = .ok (.getfield 251, 3) := by decide +kernel
theorem dX12_expression_135 : decode cX12_expression 135 = .ok (.baload, 1) := by decide +kernel
theorem dX12_expression_136 : decode cX12_expression 136 = .ok (.ifCond .ne 50, 3) := by decide +kernel
theorem dX12_expression_139 : decode cX12_expression 139 = .ok (.aload_n 0, 1) := by decide +kernel
theorem dX12_expression_140 : decode cX12_expression 140 = .ok (.iconst 4, 1) := by decide +kernel
theorem dX12_expression_141 : decode cX12_expression 141 = .ok (.invokevirtual 266, 3) := by decide +kernel
theorem dX12_expression_144 : decode cX12_expression 144 = .ok (.aload_n 0, 1) := by decide +kernel
theorem dX12_expression_145 : decode cX12_expression 145 = .ok (.aload_n 0, 1) := by decide +kernel
theorem dX12_expression_146 : decode cX12_expression 146 = .ok (.bipush 60, 2) := by decide +kernel
theorem dX12_expression_148 : decode cX12_expression 148 = .ok (.invokevirtual 254, 3) := by decide +kernel
theorem dX12_expression_151 : decode cX12_expression 151 = .ok (.ifCond .eq 8, 3) := by decide +kernel
theorem dX12_expression_154 : decode cX12_expression 154 = .ok (.bipush 6, 2) := by decide +kernel
theorem dX12_expression_156 : decode cX12_expression 156 = .ok (.goto 5, 3) := by decide +kernel
theorem dX12_expression_159 : decode cX12_expression 159 = .ok (.bipush 7, 2) := by decide +kernel
theorem dX12_expression_161 : decode cX12_expression 161 = .ok (.invokevirtual 257, 3) := by decide +kernel
theorem dX12_expression_164 : decode cX12_expression 164 = .ok (.aload_n 0, 1) := by decide +kernel
theorem dX12_expression_165 : decode cX12_expression 165 = .ok (.getfield 99, 3) := by decide +kernel
theorem dX12_expression_168 : decode cX12_expression 168 = .ok (.aload_n 0, 1) := by decide +kernel
theorem dX12_expression_169 : decode cX12_expression 169 = .ok (.getfield 251, 3) := by decide +kernel
theorem dX12_expression_172 : decode cX12_expression 172 = .ok (.iconst 1, 1) := by decide +kernel
theorem dX12_expression_173 : decode cX12_expression 173 = .ok (.bastore, 1) := by decide +kernel
theorem dX12_expression_174 : decode cX12_expression 174 = .ok (.aload_n 0, 1) := by decide +kernel
theorem dX12_expression_175 : decode cX12_expression 175 = .ok (.invokevirtual 222, 3) := by decide +kernel
theorem dX12_expression_178 : decode cX12_expression 178 = .ok (.aload_n 0, 1) := by decide +kernel
theorem dX12_expression_179 : decode cX12_expression 179 = .ok (.iconst 0, 1) := by decide +kernel
theorem dX12_expression_180 : decode cX12_expression 180 = .ok (.invokevirtual 269, 3) := by decide +kernel
theorem dX12_expression_183 : decode cX12_expression 183 = .ok (.goto 139, 3) := by decide +kernel
theorem dX12_expression_186 : decode cX12_expression 186 = .ok (.aload_n 0, 1) := by decide +kernel
theorem dX12_expression_187 : decode cX12_expression 187 = .ok (.bipush 43, 2) := by decide +kernel
theorem dX12_expression_189 : decode cX12_expression 189 = .ok (.invokevirtual 254, 3) := by decide +kernel
theorem dX12_expression_192 : decode cX12_expression 192 = .ok (.ifCond .ne 12, 3) := by decide +kernel
theorem dX12_expression_195 : decode cX12_expression 195 = .ok (.aload_n 0, 1) := by decide +kernel
theorem dX12_expression_196 : decode cX12_expression 196 = .ok (.bipush 45, 2) := by decide +kernel
theorem dX12_expression_198 : decode cX12_expression 198 = .ok (.invokevirtual 254, 3) := by decide +kernel
theorem dX12_expression_201 : decode cX12_expression 201 = .ok (.ifCond .eq 40, 3) := by decide +kernel
theorem dX12_expression_204 : decode cX12_expression 204 = .ok (.aload_n 0, 1) := by decide +kernel
theorem dX12_expression_205 : decode cX12_expression 205 = .ok (.iconst 5, 1) := by decide +kernel
theorem dX12_expression_206 : decode cX12_expression 206 = .ok (.invokevirtual 266, 3) := by decide +kernel
theorem dX12_expression_209 : decode cX12_expression 209 = .ok (.aload_n 0, 1) := by decide +kernel
theorem dX12_expression_210 : decode cX12_expression 210 = .ok (.aload_n 0, 1) := by decide +kernel
theorem dX12_expression_211 : decode cX12_expression 211 = .ok (.bipush 43, 2) := by decide +kernel
theorem dX12_expression_213 : decode cX12_expression 213 = .ok (.invokevirtual 254, 3) := by decide +kernel
theorem dX12_expression_216 : decode cX12_expression 216 = .ok (.ifCond .eq 8, 3) := by decide +kernel
theorem dX12_expression_219 : decode cX12_expression 219 = .ok (.bipush 8, 2) := by decide +kernel
theorem dX12_expression_221 : decode cX12_expression 221 = .ok (.goto 5, 3) := by decide +kernel
theorem dX12_expression_224 : decode cX12_expression 224 = .ok (.bipush 9, 2) := by decide +kernel
theorem dX12_expression_226 : decode cX12_expression 226 = .ok (.invokevirtual 257, 3) := by decide +kernel
theorem dX12_expression_229 : decode cX12_expression 229 = .ok (.aload_n 0, 1) := by decide +kernel
theorem dX12_expression_230 : decode cX12_expression 230 = .ok (.invokevirtual 222, 3) := by decide +kernel
theorem dX12_expression_233 : decode cX12_expression 233 = .ok (.aload_n 0, 1) := by decide +kernel
theorem dX12_expression_234 : decode cX12_expression 234 = .ok (.iconst 0, 1) := by decide +kernel
theorem dX12_expression_235 : decode cX12_expression 235 = .ok (.invokevirtual 269, 3) := by decide +kernel
theorem dX12_expression_238 : decode cX12_expression 238 = .ok (.goto 84, 3) := by decide +kernel
theorem dX12_expression_241 : decode cX12_expression 241 = .ok (.aload_n 0, 1) := by decide +kernel
theorem dX12_expression_242 : decode cX12_expression 242 = .ok (.bipush 42, 2) := by decide +kernel
theorem dX12_expression_244 : decode cX12_expression 244 = .ok (.invokevirtual 254, 3) := by decide +kernel
theorem dX12_expression_247 : decode cX12_expression 247 = .ok (.ifCond .ne 12, 3) := by decide +kernel
theorem dX12_expression_250 : decode cX12_expression 250 = .ok (.aload_n 0, 1) := by decide +kernel
theorem dX12_expression_251 : decode cX12_expression 251 = .ok (.bipush 47, 2) := by decide +kernel
theorem dX12_expression_253 : decode cX12_expression 253 = .ok (.invokevirtual 254, 3) := by decide +kernel
theorem dX12_expression_256 : decode cX12_expression 256 = .ok (.ifCond .eq 41, 3) := by decide +kernel
theorem dX12_expression_259 : decode cX12_expression 259 = .ok (.aload_n 0, 1) := by decide +kernel
theorem dX12_expression_260 : decode cX12_expression 260 = .ok (.bipush 6, 2) := by decide +kernel
theorem dX12_expression_262 : decode cX12_expression 262 = .ok (.invokevirtual 266, 3) := by decide +kernel
theorem dX12_expression_265 : decode cX12_expression 265 = .ok (.aload_n 0, 1) := by decide +kernel
theorem dX12_expression_266 : decode cX12_expression 266 = .ok (.aload_n 0, 1) := by decide +kernel
theorem dX12_expression_267 : decode cX12_expression 267 = .ok (.bipush 42, 2) := by decide +kernel
theorem dX12_expression_269 : decode cX12_expression 269 = .ok (.invokevirtual 254, 3) := by decide +kernel
theorem dX12_expression_272 : decode cX12_expression 272 = .ok (.ifCond .eq 8, 3) := by decide +kernel
theorem dX12_expression_275 : decode cX12_expression 275 = .ok (.bipush 10, 2) := by decide +kernel
theorem dX12_expression_277 : decode cX12_expression 277 = .ok (.goto 5, 3) := by decide +kernel
theorem dX12_expression_280 : decode cX12_expression 280 = .ok (.bipush 11, 2) := by decide +kernel
theorem dX12_expression_282 : decode cX12_expression 282 = .ok (.invokevirtual 257, 3) := by decide +kernel
theorem dX12_expression_285 : decode cX12_expression 285 = .ok (.aload_n 0, 1) := by decide +kernel
theorem dX12_expression_286 : decode cX12_expression 286 = .ok (.invokevirtual 222, 3) := by decide +kernel
theorem dX12_expression_289 : decode cX12_expression 289 = .ok (.aload_n 0, 1) := by decide +kernel
theorem dX12_expression_290 : decode cX12_expression 290 = .ok (.iconst 0, 1) := by decide +kernel
theorem dX12_expression_291 : decode cX12_expression 291 = .ok (.invokevirtual 269, 3) := by decide +kernel
theorem dX12_expression_294 : decode cX12_expression 294 = .ok (.goto 28, 3) := by decide +kernel
theorem dX12_expression_297 : decode cX12_expression 297 = .ok (.aload_n 0, 1) := by decide +kernel
theorem dX12_expression_298 : decode cX12_expression 298 = .ok (.bipush 41, 2) := by decide +kernel
theorem dX12_expression_300 : decode cX12_expression 300 = .ok (.invokevirtual 254, 3) := by decide +kernel
theorem dX12_expression_303 : decode cX12_expression 303 = .ok (.ifCond .eq 17, 3) := by decide +kernel
theorem dX12_expression_306 : decode cX12_expression 306 = .ok (.aload_n 0, 1) := by decide +kernel
theorem dX12_expression_307 : decode cX12_expression 307 = .ok (.invokevirtual 273, 3) := by decide +kernel
theorem dX12_expression_310 : decode cX12_expression 310 = .ok (.ifCond .eq 10, 3) := by decide +kernel
theorem dX12_expression_313 : decode cX12_expression 313 = .ok (.aload_n 0, 1) := by decide +kernel
theorem dX12_expression_314 : decode cX12_expression 314 = .ok (.invokevirtual 276, 3) := by decide +kernel
theorem dX12_expression_317 : decode cX12_expression 317 = .ok (.goto 5, 3) := by decide +kernel
theorem dX12_expression_320 : decode cX12_expression 320 = .ok (.iconst 0, 1) := by decide +kernel
theorem dX12_expression_321 : decode cX12_expression 321 = .ok (.istore_n 1, 1) := by decide +kernel
theorem dX12_expression_322 : decode cX12_expression 322 = .ok (.goto (-293), 3) := by decide +kernel
theorem dX12_expression_325 : decode cX12_expression 325 = .ok (.aload_n 0, 1) := by decide +kernel
theorem dX12_expression_326 : decode cX12_expression 326 = .ok (.invokevirtual 218, 3) := by decide +kernel
theorem dX12_expression_329 : decode cX12_expression 329 = .ok (.ifCond .eq 16, 3) := by decide +kernel
theorem dX12_expression_332 : decode cX12_expression 332 = .ok (.aload_n 0, 1) := by decide +kernel
theorem dX12_expression_333 : decode cX12_expression 333 = .ok (.getfield 251, 3) := by decide +kernel
theorem dX12_expression_336 : decode cX12_expression 336 = .ok (.iconst 1, 1) := by decide +kernel
theorem dX12_expression_337 : decode cX12_expression 337 = .ok (.if_icmp .le 8, 3) := by decide +kernel
theorem dX12_expression_340 : decode cX12_expression 340 = .ok (.aload_n 0, 1) := by decide +kernel
theorem dX12_expression_341 : decode cX12_expression 341 = .ok (.iconst 1, 1) := by decide +kernel
theorem dX12_expression_342 : decode cX12_expression 342 = .ok (.invokevirtual 225, 3) := by decide +kernel
theorem dX12_expression_345 : decode cX12_expression 345 = .ok (.aload_n 0, 1) := by decide +kernel
theorem dX12_expression_346 : decode cX12_expression 346 = .ok (.iconst 0, 1) := by decide +kernel
theorem dX12_expression_347 : decode cX12_expression 347 = .ok (.invokevirtual 266, 3) := by decide +kernel
theorem dX12_expression_350 : decode cX12_expression 350 = .ok (.aload_n 0, 1) := by decide +kernel
theorem dX12_expression_351 : decode cX12_expression 351 = .ok (.iconst 0, 1) := by decide +kernel
theorem dX12_expression_352 : decode cX12_expression 352 = .ok (.invokevirtual 244, 3) := by decide +kernel
theorem dX12_expression_355 : decode cX12_expression 355 = .ok (.return_, 1) := by decide +kernel
theorem dX12_cellNext_0 : decode cX12_cellNext 0 = .ok (.aload_n 0, 1) := by decide +kernel
theorem dX12_cellNext_1 : decode cX12_cellNext 1 = .ok (.iconst 0, 1) := by decide +kernel
theorem dX12_cellNext_2 : decode cX12_cellNext 2 = .ok (.aload_n 0, 1) := by decide +kernel
theorem dX12_cellNext_3 : decode cX12_cellNext 3 = .ok (.getfield 279, 3) := by decide +kernel
theorem dX12_cellNext_6 : decode cX12_cellNext 6 = .ok (.iconst 1, 1) := by decide +kernel
theorem dX12_cellNext_7 : decode cX12_cellNext 7 = .ok (.isub, 1) := by decide +kernel
theorem dX12_cellNext_8 : decode cX12_cellNext 8 = .ok (.invokevirtual 282, 3) := by decide +kernel
theorem dX12_cellNext_11 : decode cX12_cellNext 11 = .ok (.istore_n 2, 1) := by decide +kernel
theorem dX12_cellNext_12 : decode cX12_cellNext 12 = .ok (.aload_n 0, 1) := by decide +kernel
theorem dX12_cellNext_13 : decode cX12_cellNext 13 = .ok (.iconst 0, 1) := by decide +kernel
theorem dX12_cellNext_14 : decode cX12_cellNext 14 = .ok (.aload_n 0, 1) := by decide +kernel
theorem dX12_cellNext_15 : decode cX12_cellNext 15 = .ok (.getfield 286, 3) := by decide +kernel
theorem dX12_cellNext_18 : decode cX12_cellNext 18 = .ok (.iconst 1, 1) := by decide +kernel
theorem dX12_cellNext_19 : decode cX12_cellNext 19 = .ok (.isub, 1) := by decide +kernel
theorem dX12_cellNext_20 : decode cX12_cellNext 20 = .ok (.invokevirtual 228, 3) := by decide +kernel
theorem dX12_cellNext_23 : decode cX12_cellNext 23 = .ok (.ifCond .ne 5, 3) := by decide +kernel
theorem dX12_cellNext_26 : decode cX12_cellNext 26 = .ok (.iconst 0, 1) := by decide +kernel
theorem dX12_cellNext_27 : decode cX12_cellNext 27 = .ok (.ireturn, 1) := by decide +kernel
theorem dX12_cellNext_28 : decode cX12_cellNext 28 = .ok (.aload_n 0, 1) := by decide +kernel
theorem dX12_cellNext_29 : decode cX12_cellNext 29 = .ok (.getfield 279, 3) := by decide +kernel
theorem dX12_cellNext_32 : decode cX12_cellNext 32 = .ok (.aload_n 0, 1) := by decide +kernel
theorem dX12_cellNext_33 : decode cX12_cellNext 33 = .ok (.getfield 186, 3) := by decide +kernel
theorem dX12_cellNext_36 : decode cX12_cellNext 36 = .ok (.imul, 1) := by decide +kernel
theorem dX12_cellNext_37 : decode cX12_cellNext 37 = .ok (.iload_n 2, 1) := by decide +kernel
theorem dX12_cellNext_38 : decode cX12_cellNext 38 = .ok (.iadd, 1) := by decide +kernel
theorem dX12_cellNext_39 : decode cX12_cellNext 39 = .ok (.istore_n 3, 1) := by decide +kernel
theorem dX12_cellNext_40 : decode cX12_cellNext 40 = .ok (.aload_n 0, 1) := by decide +kernel
theorem dX12_cellNext_41 : decode cX12_cellNext 41 = .ok (.getfield 60, 3) := by decide +kernel
theorem dX12_cellNext_44 : decode cX12_cellNext 44 = .ok (.iload_n 3, 1) := by decide +kernel
theorem dX12_cellNext_45 : decode cX12_cellNext 45 = .ok (.iaload, 1) := by decide +kernel
theorem dX12_cellNext_46 : decode cX12_cellNext 46 = .ok (.iload_n 1, 1) := by decide +kernel
theorem dX12_cellNext_47 : decode cX12_cellNext 47 = .ok (.iand, 1) := by decide +kernel
theorem dX12_cellNext_48 : decode cX12_cellNext 48 = .ok (.ifCond .eq 8, 3) := by decide +kernel
theorem dX12_cellNext_51 : decode cX12_cellNext 51 = .ok (.aload_n 0, 1) := by decide +kernel
theorem dX12_cellNext_52 : decode cX12_cellNext 52 = .ok (.iconst 4, 1) := by decide +kernel
theorem dX12_cellNext_53 : decode cX12_cellNext 53 = .ok (.invokevirtual 225, 3) := by decide +kernel
theorem dX12_cellNext_56 : decode cX12_cellNext 56 = .ok (.aload_n 0, 1) := by decide +kernel
theorem dX12_cellNext_57 : decode cX12_cellNext 57 = .ok (.invokevirtual 218, 3) := by decide +kernel
theorem dX12_cellNext_60 : decode cX12_cellNext 60 = .ok (.ifCond .eq 7, 3) := by decide +kernel
theorem dX12_cellNext_63 : decode cX12_cellNext 63 = .ok (.aload_n 0, 1) := by decide +kernel
theorem dX12_cellNext_64 : decode cX12_cellNext 64 = .ok (.invokevirtual 222, 3) := by decide +kernel
theorem dX12_cellNext_67 : decode cX12_cellNext 67 = .ok (.iload_n 3, 1) := by decide +kernel
theorem dX12_cellNext_68 : decode cX12_cellNext 68 = .ok (.ireturn, 1) := by decide +kernel
theorem dX12_stepOf_0 : decode cX12_stepOf 0 = .ok (.iload_n 0, 1) := by decide +kernel
theorem dX12_stepOf_1 : decode cX12_stepOf 1 = .ok (.bipush 110, 2) := by decide +kernel
theorem dX12_stepOf_3 : decode cX12_stepOf 3 = .ok (.if_icmp .ne 7, 3) := by decide +kernel
theorem dX12_stepOf_6 : decode cX12_stepOf 6 = .ok (.iconst 0, 1) := by decide +kernel
theorem dX12_stepOf_7 : decode cX12_stepOf 7 = .ok (.goto 44, 3) := by decide +kernel
theorem dX12_stepOf_10 : decode cX12_stepOf 10 = .ok (.iload_n 0, 1) := by decide +kernel
theorem dX12_stepOf_11 : decode cX12_stepOf 11 = .ok (.bipush 101, 2) := by decide +kernel
theorem dX12_stepOf_13 : decode cX12_stepOf 13 = .ok (.if_icmp .ne 7, 3) := by decide +kernel
theorem dX12_stepOf_16 : decode cX12_stepOf 16 = .ok (.iconst 1, 1) := by decide +kernel
theorem dX12_stepOf_17 : decode cX12_stepOf 17 = .ok (.goto 34, 3) := by decide +kernel
theorem dX12_stepOf_20 : decode cX12_stepOf 20 = .ok (.iload_n 0, 1) := by decide +kernel
theorem dX12_stepOf_21 : decode cX12_stepOf 21 = .ok (.bipush 115, 2) := by decide +kernel
theorem dX12_stepOf_23 : decode cX12_stepOf 23 = .ok (.if_icmp .ne 7, 3) := by decide +kernel
theorem dX12_stepOf_26 : decode cX12_stepOf 26 = .ok (.iconst 2, 1) := by decide +kernel
theorem dX12_stepOf_27 : decode cX12_stepOf 27 = .ok (.goto 24, 3) := by decide +kernel
theorem dX12_stepOf_30 : decode cX12_stepOf 30 = .ok (.iload_n 0, 1) := by decide +kernel
theorem dX12_stepOf_31 : decode cX12_stepOf 31 = .ok (.bipush 119, 2) := by decide +kernel
theorem dX12_stepOf_33 : decode cX12_stepOf 33 = .ok (.if_icmp .ne 7, 3) := by decide +kernel
theorem dX12_stepOf_36 : decode cX12_stepOf 36 = .ok (.iconst 3, 1) := by decide +kernel
theorem dX12_stepOf_37 : decode cX12_stepOf 37 = .ok (.goto 14, 3) := by decide +kernel
theorem dX12_stepOf_40 : decode cX12_stepOf 40 = .ok (.iload_n 0, 1) := by decide +kernel
theorem dX12_stepOf_41 : decode cX12_stepOf 41 = .ok (.bipush 111, 2) := by decide +kernel
theorem dX12_stepOf_43 : decode cX12_stepOf 43 = .ok (.if_icmp .ne 7, 3) := by decide +kernel
theorem dX12_stepOf_46 : decode cX12_stepOf 46 = .ok (.iconst 4, 1) := by decide +kernel
theorem dX12_stepOf_47 : decode cX12_stepOf 47 = .ok (.goto 4, 3) := by decide +kernel
theorem dX12_stepOf_50 : decode cX12_stepOf 50 = .ok (.iconst (-1), 1) := by decide +kernel
theorem dX12_stepOf_51 : decode cX12_stepOf 51 = .ok (.ireturn, 1) := by decide +kernel
theorem dX12_flashOf_0 : decode cX12_flashOf 0 = .ok (.iload_n 0, 1) := by decide +kernel
theorem dX12_flashOf_1 : decode cX12_flashOf 1 = .ok (.bipush 107, 2) := by decide +kernel
theorem dX12_flashOf_3 : decode cX12_flashOf 3 = .ok (.if_icmp .ne 7, 3) := by decide +kernel
theorem dX12_flashOf_6 : decode cX12_flashOf 6 = .ok (.iconst 0, 1) := by decide +kernel
theorem dX12_flashOf_7 : decode cX12_flashOf 7 = .ok (.goto 14, 3) := by decide +kernel
theorem dX12_flashOf_10 : decode cX12_flashOf 10 = .ok (.iload_n 0, 1) := by decide +kernel
theorem dX12_flashOf_11 : decode cX12_flashOf 11 = .ok (.bipush 108, 2) := by decide +kernel
theorem dX12_flashOf_13 : decode cX12_flashOf 13 = .ok (.if_icmp .ne 7, 3) := by decide +kernel
theorem dX12_flashOf_16 : decode cX12_flashOf 16 = .ok (.iconst 1, 1) := by decide +kernel
theorem dX12_flashOf_17 : decode cX12_flashOf 17 = .ok (.goto 4, 3) := by decide +kernel
theorem dX12_flashOf_20 : decode cX12_flashOf 20 = .ok (.iconst (-1), 1) := by decide +kernel
theorem dX12_flashOf_21 : decode cX12_flashOf 21 = .ok (.ireturn, 1) := by decide +kernel
theorem dX12_rowNext_0 : decode cX12_rowNext 0 = .ok (.aload_n 0, 1) := by decide +kernel
theorem dX12_rowNext_1 : decode cX12_rowNext 1 = .ok (.invokevirtual 218, 3) := by decide +kernel
theorem dX12_rowNext_4 : decode cX12_rowNext 4 = .ok (.ifCond .ne 5, 3) := by decide +kernel
theorem dX12_rowNext_7 : decode cX12_rowNext 7 = .ok (.iconst 0, 1) := by decide +kernel
theorem dX12_rowNext_8 : decode cX12_rowNext 8 = .ok (.ireturn, 1) := by decide +kernel
theorem dX12_rowNext_9 : decode cX12_rowNext 9 = .ok (.aload_n 0, 1) := by decide +kernel
theorem dX12_rowNext_10 : decode cX12_rowNext 10 = .ok (.getfield 192, 3) := by decide +kernel
theorem dX12_rowNext_13 : decode cX12_rowNext 13 = .ok (.iconst 1, 1) := by decide +kernel
theorem dX12_rowNext_14 : decode cX12_rowNext 14 = .ok (.if_icmp .eq 8, 3) := by decide +kernel
theorem dX12_rowNext_17 : decode cX12_rowNext 17 = .ok (.aload_n 0, 1) := by decide +kernel
theorem dX12_rowNext_18 : decode cX12_rowNext 18 = .ok (.iconst 1, 1) := by decide +kernel
theorem dX12_rowNext_19 : decode cX12_rowNext 19 = .ok (.invokevirtual 225, 3) := by decide +kernel
theorem dX12_rowNext_22 : decode cX12_rowNext 22 = .ok (.iconst 0, 1) := by decide +kernel
theorem dX12_rowNext_23 : decode cX12_rowNext 23 = .ok (.istore 5, 2) := by decide +kernel
theorem dX12_rowNext_25 : decode cX12_rowNext 25 = .ok (.iload 5, 2) := by decide +kernel
theorem dX12_rowNext_27 : decode cX12_rowNext 27 = .ok (.aload_n 0, 1) := by decide +kernel
theorem dX12_rowNext_28 : decode cX12_rowNext 28 = .ok (.getfield 202, 3) := by decide +kernel
theorem dX12_rowNext_31 : decode cX12_rowNext 31 = .ok (.if_icmp .ge 60, 3) := by decide +kernel
theorem dX12_rowNext_34 : decode cX12_rowNext 34 = .ok (.aload_n 0, 1) := by decide +kernel
theorem dX12_rowNext_35 : decode cX12_rowNext 35 = .ok (.invokevirtual 218, 3) := by decide +kernel
theorem dX12_rowNext_38 : decode cX12_rowNext 38 = .ok (.ifCond .eq 53, 3) := by decide +kernel
theorem dX12_rowNext_41 : decode cX12_rowNext 41 = .ok (.iload_n 1, 1) := by decide +kernel
theorem dX12_rowNext_42 : decode cX12_rowNext 42 = .ok (.ifCond .eq 20, 3) := by decide +kernel
theorem dX12_rowNext_45 : decode cX12_rowNext 45 = .ok (.aload_n 0, 1) := by decide +kernel
theorem dX12_rowNext_46 : decode cX12_rowNext 46 = .ok (.aload_n 0, 1) := by decide +kernel
theorem dX12_rowNext_47 : decode cX12_rowNext 47 = .ok (.getfield 179, 3) := by decide +kernel
theorem dX12_rowNext_50 : decode cX12_rowNext 50 = .ok (.iload 5, 2) := by decide +kernel
theorem dX12_rowNext_52 : decode cX12_rowNext 52 = .ok (.iadd, 1) := by decide +kernel
theorem dX12_rowNext_53 : decode cX12_rowNext 53 = .ok (.invokevirtual 175, 3) := by decide +kernel
theorem dX12_rowNext_56 : decode cX12_rowNext 56 = .ok (.invokestatic 289, 3) := by decide +kernel
theorem dX12_rowNext_59 : decode cX12_rowNext 59 = .ok (.goto 17, 3) := by decide +kernel
theorem dX12_rowNext_62 : decode cX12_rowNext 62 = .ok (.aload_n 0, 1) := by decide +kernel
theorem dX12_rowNext_63 : decode cX12_rowNext 63 = .ok (.aload_n 0, 1) := by decide +kernel
theorem dX12_rowNext_64 : decode cX12_rowNext 64 = .ok (.getfield 179, 3) := by decide +kernel
theorem dX12_rowNext_67 : decode cX12_rowNext 67 = .ok (.iload 5, 2) := by decide +kernel
theorem dX12_rowNext_69 : decode cX12_rowNext 69 = .ok (.iadd, 1) := by decide +kernel
theorem dX12_rowNext_70 : decode cX12_rowNext 70 = .ok (.invokevirtual 175, 3) := by decide +kernel
theorem dX12_rowNext_73 : decode cX12_rowNext 73 = .ok (.invokestatic 292, 3) := by decide +kernel
theorem dX12_rowNext_76 : decode cX12_rowNext 76 = .ok (.iconst (-1), 1) := by decide +kernel
theorem dX12_rowNext_77 : decode cX12_rowNext 77 = .ok (.if_icmp .ne 8, 3) := by decide +kernel
theorem dX12_rowNext_80 : decode cX12_rowNext 80 = .ok (.aload_n 0, 1) := by decide +kernel
theorem dX12_rowNext_81 : decode cX12_rowNext 81 = .ok (.iconst 3, 1) := by decide +kernel
theorem dX12_rowNext_82 : decode cX12_rowNext 82 = .ok (.invokevirtual 225, 3) := by decide +kernel
theorem dX12_rowNext_85 : decode cX12_rowNext 85 = .ok (.iinc 5 1, 3) := by decide +kernel
theorem dX12_rowNext_88 : decode cX12_rowNext 88 = .ok (.goto (-63), 3) := by decide +kernel
theorem dX12_rowNext_91 : decode cX12_rowNext 91 = .ok (.aload_n 0, 1) := by decide +kernel
theorem dX12_rowNext_92 : decode cX12_rowNext 92 = .ok (.invokevirtual 218, 3) := by decide +kernel
theorem dX12_rowNext_95 : decode cX12_rowNext 95 = .ok (.ifCond .eq 16, 3) := by decide +kernel
theorem dX12_rowNext_98 : decode cX12_rowNext 98 = .ok (.aload_n 0, 1) := by decide +kernel
theorem dX12_rowNext_99 : decode cX12_rowNext 99 = .ok (.getfield 202, 3) := by decide +kernel
theorem dX12_rowNext_102 : decode cX12_rowNext 102 = .ok (.iload_n 2, 1) := by decide +kernel
theorem dX12_rowNext_103 : decode cX12_rowNext 103 = .ok (.if_icmp .le 8, 3) := by decide +kernel
theorem dX12_rowNext_106 : decode cX12_rowNext 106 = .ok (.aload_n 0, 1) := by decide +kernel
theorem dX12_rowNext_107 : decode cX12_rowNext 107 = .ok (.iconst 2, 1) := by decide +kernel
theorem dX12_rowNext_108 : decode cX12_rowNext 108 = .ok (.invokevirtual 225, 3) := by decide +kernel
theorem dX12_rowNext_111 : decode cX12_rowNext 111 = .ok (.aload_n 0, 1) := by decide +kernel
theorem dX12_rowNext_112 : decode cX12_rowNext 112 = .ok (.invokevirtual 218, 3) := by decide +kernel
theorem dX12_rowNext_115 : decode cX12_rowNext 115 = .ok (.ifCond .ne 5, 3) := by decide +kernel
theorem dX12_rowNext_118 : decode cX12_rowNext 118 = .ok (.iconst 0, 1) := by decide +kernel
theorem dX12_rowNext_119 : decode cX12_rowNext 119 = .ok (.ireturn, 1) := by decide +kernel
theorem dX12_rowNext_120 : decode cX12_rowNext 120 = .ok (.iconst 0, 1) := by decide +kernel
theorem dX12_rowNext_121 : decode cX12_rowNext 121 = .ok (.istore 5, 2) := by decide +kernel
theorem dX12_rowNext_123 : decode cX12_rowNext 123 = .ok (.iload 5, 2) := by decide +kernel
theorem dX12_rowNext_125 : decode cX12_rowNext 125 = .ok (.aload_n 0, 1) := by decide +kernel
theorem dX12_rowNext_126 : decode cX12_rowNext 126 = .ok (.getfield 202, 3) := by decide +kernel
theorem dX12_rowNext_129 : decode cX12_rowNext 129 = .ok (.if_icmp .ge 51, 3) := by decide +kernel
theorem dX12_rowNext_132 : decode cX12_rowNext 132 = .ok (.aload_n 3, 1) := by decide +kernel
theorem dX12_rowNext_133 : decode cX12_rowNext 133 = .ok (.iload 4, 2) := by decide +kernel
theorem dX12_rowNext_135 : decode cX12_rowNext 135 = .ok (.iload 5, 2) := by decide +kernel
theorem dX12_rowNext_137 : decode cX12_rowNext 137 = .ok (.iadd, 1) := by decide +kernel
theorem dX12_rowNext_138 : decode cX12_rowNext 138 = .ok (.iload_n 1, 1) := by decide +kernel
theorem dX12_rowNext_139 : decode cX12_rowNext 139 = .ok (.ifCond .eq 20, 3) := by decide +kernel
theorem dX12_rowNext_142 : decode cX12_rowNext 142 = .ok (.aload_n 0, 1) := by decide +kernel
theorem dX12_rowNext_143 : decode cX12_rowNext 143 = .ok (.aload_n 0, 1) := by decide +kernel
theorem dX12_rowNext_144 : decode cX12_rowNext 144 = .ok (.getfield 179, 3) := by decide +kernel
theorem dX12_rowNext_147 : decode cX12_rowNext 147 = .ok (.iload 5, 2) := by decide +kernel
theorem dX12_rowNext_149 : decode cX12_rowNext 149 = .ok (.iadd, 1) := by decide +kernel
theorem dX12_rowNext_150 : decode cX12_rowNext 150 = .ok (.invokevirtual 175, 3) := by decide +kernel
theorem dX12_rowNext_153 : decode cX12_rowNext 153 = .ok (.invokestatic 289, 3) := by decide +kernel
theorem dX12_rowNext_156 : decode cX12_rowNext 156 = .ok (.goto 17, 3) := by decide +kernel
theorem dX12_rowNext_159 : decode cX12_rowNext 159 = .ok (.aload_n 0, 1) := by decide +kernel
theorem dX12_rowNext_160 : decode cX12_rowNext 160 = .ok (.aload_n 0, 1) := by decide +kernel
theorem dX12_rowNext_161 : decode cX12_rowNext 161 = .ok (.getfield 179, 3) := by decide +kernel
theorem dX12_rowNext_164 : decode cX12_rowNext 164 = .ok (.iload 5, 2) := by decide +kernel
theorem dX12_rowNext_166 : decode cX12_rowNext 166 = .ok (.iadd, 1) := by decide +kernel
theorem dX12_rowNext_167 : decode cX12_rowNext 167 = .ok (.invokevirtual 175, 3) := by decide +kernel
theorem dX12_rowNext_170 : decode cX12_rowNext 170 = .ok (.invokestatic 292, 3) := by decide +kernel
theorem dX12_rowNext_173 : decode cX12_rowNext 173 = .ok (.iastore, 1) := by decide +kernel
theorem dX12_rowNext_174 : decode cX12_rowNext 174 = .ok (.iinc 5 1, 3) := by decide +kernel
theorem dX12_rowNext_177 : decode cX12_rowNext 177 = .ok (.goto (-54), 3) := by decide +kernel
theorem dX12_rowNext_180 : decode cX12_rowNext 180 = .ok (.aload_n 0, 1) := by decide +kernel
theorem dX12_rowNext_181 : decode cX12_rowNext 181 = .ok (.getfield 202, 3) := by decide +kernel
theorem dX12_rowNext_184 : decode cX12_rowNext 184 = .ok (.istore 5, 2) := by decide +kernel
theorem dX12_rowNext_186 : decode cX12_rowNext 186 = .ok (.aload_n 0, 1) := by decide +kernel
theorem dX12_rowNext_187 : decode cX12_rowNext 187 = .ok (.invokevirtual 222, 3) := by decide +kernel
theorem dX12_rowNext_190 : decode cX12_rowNext 190 = .ok (.iload 5, 2) := by decide +kernel
theorem dX12_rowNext_192 : decode cX12_rowNext 192 = .ok (.ireturn, 1) := by decide +kernel
theorem dX12_readsLight_0 : decode cX12_readsLight 0 = .ok (.aload_n 0, 1) := by decide +kernel
theorem dX12_readsLight_1 : decode cX12_readsLight 1 = .ok (.getfield 295, 3) := by decide +kernel
theorem dX12_readsLight_4 : decode cX12_readsLight 4 = .ok (.iconst 5, 1) := by decide +kernel
theorem dX12_readsLight_5 : decode cX12_readsLight 5 = .ok (.if_icmp .ne 8, 3) := by decide +kernel
theorem dX12_readsLight_8 : decode cX12_readsLight 8 = .ok (.aload_n 0, 1) := by decide +kernel
theorem dX12_readsLight_9 : decode cX12_readsLight 9 = .ok (.iconst 2, 1) := by decide +kernel
theorem dX12_readsLight_10 : decode cX12_readsLight 10 = .ok (.invokevirtual 225, 3) := by decide +kernel
theorem dX12_readsLight_13 : decode cX12_readsLight 13 = .ok (.aload_n 0, 1) := by decide +kernel
theorem dX12_readsLight_14 : decode cX12_readsLight 14 = .ok (.invokevirtual 218, 3) := by decide +kernel
theorem dX12_readsLight_17 : decode cX12_readsLight 17 = .ok (.ifCond .ne 4, 3) := by decide +kernel
theorem dX12_readsLight_20 : decode cX12_readsLight 20 = .ok (.return_, 1) := by decide +kernel
theorem dX12_readsLight_21 : decode cX12_readsLight 21 = .ok (.aload_n 0, 1) := by decide +kernel
theorem dX12_readsLight_22 : decode cX12_readsLight 22 = .ok (.invokevirtual 222, 3) := by decide +kernel
theorem dX12_readsLight_25 : decode cX12_readsLight 25 = .ok (.aload_n 0, 1) := by decide +kernel
theorem dX12_readsLight_26 : decode cX12_readsLight 26 = .ok (.getfield 295, 3) := by decide +kernel
theorem dX12_readsLight_29 : decode cX12_readsLight 29 = .ok (.istore_n 1, 1) := by decide +kernel
theorem dX12_readsLight_30 : decode cX12_readsLight 30 = .ok (.aload_n 0, 1) := by decide +kernel
theorem dX12_readsLight_31 : decode cX12_readsLight 31 = .ok (.iconst 3, 1) := by decide +kernel
theorem dX12_readsLight_32 : decode cX12_readsLight 32 = .ok (.invokevirtual 298, 3) := by decide +kernel
theorem dX12_readsLight_35 : decode cX12_readsLight 35 = .ok (.istore_n 2, 1) := by decide +kernel
theorem dX12_readsLight_36 : decode cX12_readsLight 36 = .ok (.aload_n 0, 1) := by decide +kernel
theorem dX12_readsLight_37 : decode cX12_readsLight 37 = .ok (.getfield 66, 3) := by decide +kernel
theorem dX12_readsLight_40 : decode cX12_readsLight 40 = .ok (.iload_n 1, 1) := by decide +kernel
theorem dX12_readsLight_41 : decode cX12_readsLight 41 = .ok (.aload_n 0, 1) := by decide +kernel
theorem dX12_readsLight_42 : decode cX12_readsLight 42 = .ok (.iconst 1, 1) := by decide +kernel
theorem dX12_readsLight_43 : decode cX12_readsLight 43 = .ok (.bipush 12, 2) := by decide +kernel
theorem dX12_readsLight_45 : decode cX12_readsLight 45 = .ok (.invokevirtual 282, 3) := by decide +kernel
theorem dX12_readsLight_48 : decode cX12_readsLight 48 = .ok (.iastore, 1) := by decide +kernel
theorem dX12_readsLight_49 : decode cX12_readsLight 49 = .ok (.aload_n 0, 1) := by decide +kernel
theorem dX12_readsLight_50 : decode cX12_readsLight 50 = .ok (.getfield 90, 3) := by decide +kernel
theorem dX12_readsLight_53 : decode cX12_readsLight 53 = .ok (.iconst 0, 1) := by decide +kernel
theorem dX12_readsLight_54 : decode cX12_readsLight 54 = .ok (.iload_n 1, 1) := by decide +kernel
theorem dX12_readsLight_55 : decode cX12_readsLight 55 = .ok (.iadd, 1) := by decide +kernel
theorem dX12_readsLight_56 : decode cX12_readsLight 56 = .ok (.aload_n 0, 1) := by decide +kernel
theorem dX12_readsLight_57 : decode cX12_readsLight 57 = .ok (.iconst 0, 1) := by decide +kernel
theorem dX12_readsLight_58 : decode cX12_readsLight 58 = .ok (.sipush 200, 3) := by decide +kernel
theorem dX12_readsLight_61 : decode cX12_readsLight 61 = .ok (.invokevirtual 282, 3) := by decide +kernel
theorem dX12_readsLight_64 : decode cX12_readsLight 64 = .ok (.iastore, 1) := by decide +kernel
theorem dX12_readsLight_65 : decode cX12_readsLight 65 = .ok (.aload_n 0, 1) := by decide +kernel
theorem dX12_readsLight_66 : decode cX12_readsLight 66 = .ok (.getfield 69, 3) := by decide +kernel
theorem dX12_readsLight_69 : decode cX12_readsLight 69 = .ok (.iload_n 1, 1) := by decide +kernel
theorem dX12_readsLight_70 : decode cX12_readsLight 70 = .ok (.aload_n 0, 1) := by decide +kernel
theorem dX12_readsLight_71 : decode cX12_readsLight 71 = .ok (.iconst 0, 1) := by decide +kernel
theorem dX12_readsLight_72 : decode cX12_readsLight 72 = .ok (.bipush 9, 2) := by decide +kernel
theorem dX12_readsLight_74 : decode cX12_readsLight 74 = .ok (.invokevirtual 282, 3) := by decide +kernel
theorem dX12_readsLight_77 : decode cX12_readsLight 77 = .ok (.iastore, 1) := by decide +kernel
theorem dX12_readsLight_78 : decode cX12_readsLight 78 = .ok (.aload_n 0, 1) := by decide +kernel
theorem dX12_readsLight_79 : decode cX12_readsLight 79 = .ok (.getfield 72, 3) := by decide +kernel
theorem dX12_readsLight_82 : decode cX12_readsLight 82 = .ok (.iload_n 1, 1) := by decide +kernel
theorem dX12_readsLight_83 : decode cX12_readsLight 83 = .ok (.aload_n 0, 1) := by decide +kernel
theorem dX12_readsLight_84 : decode cX12_readsLight 84 = .ok (.iconst 1, 1) := by decide +kernel
theorem dX12_readsLight_85 : decode cX12_readsLight 85 = .ok (.bipush 12, 2) := by decide +kernel
theorem dX12_readsLight_87 : decode cX12_readsLight 87 = .ok (.aload_n 0, 1) := by decide +kernel
theorem dX12_readsLight_88 : decode cX12_readsLight 88 = .ok (.getfield 75, 3) := by decide +kernel
theorem dX12_readsLight_91 : decode cX12_readsLight 91 = .ok (.bipush 12, 2) := by decide +kernel
theorem dX12_readsLight_93 : decode cX12_readsLight 93 = .ok (.iload_n 1, 1) := by decide +kernel
theorem dX12_readsLight_94 : decode cX12_readsLight 94 = .ok (.imul, 1) := by decide +kernel
theorem dX12_readsLight_95 : decode cX12_readsLight 95 = .ok (.invokevirtual 301, 3) := by decide +kernel
theorem dX12_readsLight_98 : decode cX12_readsLight 98 = .ok (.iastore, 1) := by decide +kernel
theorem dX12_readsLight_99 : decode cX12_readsLight 99 = .ok (.aload_n 0, 1) := by decide +kernel
theorem dX12_readsLight_100 : decode cX12_readsLight 100 = .ok (.getfield 78, 3) := by decide +kernel
theorem dX12_readsLight_103 : decode cX12_readsLight 103 = .ok (.iload_n 1, 1) := by decide +kernel
theorem dX12_readsLight_104 : decode cX12_readsLight 104 = .ok (.aload_n 0, 1) := by decide +kernel
theorem dX12_readsLight_105 : decode cX12_readsLight 105 = .ok (.iconst 0, 1) := by decide +kernel
theorem dX12_readsLight_106 : decode cX12_readsLight 106 = .ok (.bipush 6, 2) := by decide +kernel
theorem dX12_readsLight_108 : decode cX12_readsLight 108 = .ok (.aload_n 0, 1) := by decide +kernel
theorem dX12_readsLight_109 : decode cX12_readsLight 109 = .ok (.getfield 81, 3) := by decide +kernel
theorem dX12_readsLight_112 : decode cX12_readsLight 112 = .ok (.bipush 6, 2) := by decide +kernel
theorem dX12_readsLight_114 : decode cX12_readsLight 114 = .ok (.iload_n 1, 1) := by decide +kernel
theorem dX12_readsLight_115 : decode cX12_readsLight 115 = .ok (.imul, 1) := by decide +kernel
theorem dX12_readsLight_116 : decode cX12_readsLight 116 = .ok (.invokevirtual 301, 3) := by decide +kernel
theorem dX12_readsLight_119 : decode cX12_readsLight 119 = .ok (.iastore, 1) := by decide +kernel
theorem dX12_readsLight_120 : decode cX12_readsLight 120 = .ok (.aload_n 0, 1) := by decide +kernel
theorem dX12_readsLight_121 : decode cX12_readsLight 121 = .ok (.invokevirtual 218, 3) := by decide +kernel
theorem dX12_readsLight_124 : decode cX12_readsLight 124 = .ok (.ifCond .ne 4, 3) := by decide +kernel
theorem dX12_readsLight_127 : decode cX12_readsLight 127 = .ok (.return_, 1) := by decide +kernel
theorem dX12_readsLight_128 : decode cX12_readsLight 128 = .ok (.aload_n 0, 1) := by decide +kernel
theorem dX12_readsLight_129 : decode cX12_readsLight 129 = .ok (.getfield 90, 3) := by decide +kernel
theorem dX12_readsLight_132 : decode cX12_readsLight 132 = .ok (.bipush 13, 2) := by decide +kernel
theorem dX12_readsLight_134 : decode cX12_readsLight 134 = .ok (.iload_n 1, 1) := by decide +kernel
theorem dX12_readsLight_135 : decode cX12_readsLight 135 = .ok (.iadd, 1) := by decide +kernel
theorem dX12_readsLight_136 : decode cX12_readsLight 136 = .ok (.iload_n 2, 1) := by decide +kernel
theorem dX12_readsLight_137 : decode cX12_readsLight 137 = .ok (.iastore, 1) := by decide +kernel
theorem dX12_readsLight_138 : decode cX12_readsLight 138 = .ok (.aload_n 0, 1) := by decide +kernel
theorem dX12_readsLight_139 : decode cX12_readsLight 139 = .ok (.getfield 60, 3) := by decide +kernel
theorem dX12_readsLight_142 : decode cX12_readsLight 142 = .ok (.iload_n 2, 1) := by decide +kernel
theorem dX12_readsLight_143 : decode cX12_readsLight 143 = .ok (.dup2, 1) := by decide +kernel
theorem dX12_readsLight_144 : decode cX12_readsLight 144 = .ok (.iaload, 1) := by decide +kernel
theorem dX12_readsLight_145 : decode cX12_readsLight 145 = .ok (.iconst 2, 1) := by decide +kernel
theorem dX12_readsLight_146 : decode cX12_readsLight 146 = .ok (.ior, 1) := by decide +kernel
theorem dX12_readsLight_147 : decode cX12_readsLight 147 = .ok (.iastore, 1) := by decide +kernel
theorem dX12_readsLight_148 : decode cX12_readsLight 148 = .ok (.aload_n 0, 1) := by decide +kernel
theorem dX12_readsLight_149 : decode cX12_readsLight 149 = .ok (.dup, 1) := by decide +kernel
theorem dX12_readsLight_150 : decode cX12_readsLight 150 = .ok (.getfield 295, 3) := by decide +kernel
theorem dX12_readsLight_153 : decode cX12_readsLight 153 = .ok (.iconst 1, 1) := by decide +kernel
theorem dX12_readsLight_154 : decode cX12_readsLight 154 = .ok (.iadd, 1) := by decide +kernel
theorem dX12_readsLight_155 : decode cX12_readsLight 155 = .ok (.putfield 295, 3) := by decide +kernel
theorem dX12_readsLight_158 : decode cX12_readsLight 158 = .ok (.return_, 1) := by decide +kernel
theorem dX12_readsFogs_0 : decode cX12_readsFogs 0 = .ok (.aload_n 0, 1) := by decide +kernel
theorem dX12_readsFogs_1 : decode cX12_readsFogs 1 = .ok (.getfield 305, 3) := by decide +kernel
theorem dX12_readsFogs_4 : decode cX12_readsFogs 4 = .ok (.ifCond .le 8, 3) := by decide +kernel
theorem dX12_readsFogs_7 : decode cX12_readsFogs 7 = .ok (.aload_n 0, 1) := by decide +kernel
theorem dX12_readsFogs_8 : decode cX12_readsFogs 8 = .ok (.iconst 5, 1) := by decide +kernel
theorem dX12_readsFogs_9 : decode cX12_readsFogs 9 = .ok (.invokevirtual 225, 3) := by decide +kernel
theorem dX12_readsFogs_12 : decode cX12_readsFogs 12 = .ok (.aload_n 0, 1) := by decide +kernel
theorem dX12_readsFogs_13 : decode cX12_readsFogs 13 = .ok (.invokevirtual 218, 3) := by decide +kernel
theorem dX12_readsFogs_16 : decode cX12_readsFogs 16 = .ok (.ifCond .ne 4, 3) := by decide +kernel
theorem dX12_readsFogs_19 : decode cX12_readsFogs 19 = .ok (.return_, 1) := by decide +kernel
theorem dX12_readsFogs_20 : decode cX12_readsFogs 20 = .ok (.aload_n 0, 1) := by decide +kernel
theorem dX12_readsFogs_21 : decode cX12_readsFogs 21 = .ok (.invokevirtual 222, 3) := by decide +kernel
theorem dX12_readsFogs_24 : decode cX12_readsFogs 24 = .ok (.iconst 1, 1) := by decide +kernel
theorem dX12_readsFogs_25 : decode cX12_readsFogs 25 = .ok (.istore_n 1, 1) := by decide +kernel
theorem dX12_readsFogs_26 : decode cX12_readsFogs 26 = .ok (.iload_n 1, 1) := by decide +kernel
theorem dX12_readsFogs_27 : decode cX12_readsFogs 27 = .ok (.ifCond .eq 85, 3) := by decide +kernel
theorem dX12_readsFogs_30 : decode cX12_readsFogs 30 = .ok (.aload_n 0, 1) := by decide +kernel
theorem dX12_readsFogs_31 : decode cX12_readsFogs 31 = .ok (.invokevirtual 218, 3) := by decide +kernel
theorem dX12_readsFogs_34 : decode cX12_readsFogs 34 = .ok (.ifCond .eq 78, 3) := by decide +kernel
theorem dX12_readsFogs_37 : decode cX12_readsFogs 37 = .ok (.aload_n 0, 1) := by decide +kernel
theorem dX12_readsFogs_38 : decode cX12_readsFogs 38 = .ok (.getfield 305, 3) := by decide +kernel
theorem dX12_readsFogs_41 : decode cX12_readsFogs 41 = .ok (.bipush 8, 2) := by decide +kernel
theorem dX12_readsFogs_43 : decode cX12_readsFogs 43 = .ok (.if_icmp .ne 16, 3) := by decide +kernel
theorem dX12_readsFogs_46 : decode cX12_readsFogs 46 = .ok (.aload_n 0, 1) := by decide +kernel
theorem dX12_readsFogs_47 : decode cX12_readsFogs 47 = .ok (.getfield 192, 3) := by decide +kernel
theorem dX12_readsFogs_50 : decode cX12_readsFogs 50 = .ok (.iconst 2, 1) := by decide +kernel
theorem dX12_readsFogs_51 : decode cX12_readsFogs 51 = .ok (.if_icmp .ne 8, 3) := by decide +kernel
theorem dX12_readsFogs_54 : decode cX12_readsFogs 54 = .ok (.aload_n 0, 1) := by decide +kernel
theorem dX12_readsFogs_55 : decode cX12_readsFogs 55 = .ok (.iconst 2, 1) := by decide +kernel
theorem dX12_readsFogs_56 : decode cX12_readsFogs 56 = .ok (.invokevirtual 225, 3) := by decide +kernel
theorem dX12_readsFogs_59 : decode cX12_readsFogs 59 = .ok (.aload_n 0, 1) := by decide +kernel
theorem dX12_readsFogs_60 : decode cX12_readsFogs 60 = .ok (.iconst 0, 1) := by decide +kernel
theorem dX12_readsFogs_61 : decode cX12_readsFogs 61 = .ok (.bipush 9, 2) := by decide +kernel
theorem dX12_readsFogs_63 : decode cX12_readsFogs 63 = .ok (.invokevirtual 282, 3) := by decide +kernel
theorem dX12_readsFogs_66 : decode cX12_readsFogs 66 = .ok (.istore_n 2, 1) := by decide +kernel
theorem dX12_readsFogs_67 : decode cX12_readsFogs 67 = .ok (.aload_n 0, 1) := by decide +kernel
theorem dX12_readsFogs_68 : decode cX12_readsFogs 68 = .ok (.invokevirtual 218, 3) := by decide +kernel
theorem dX12_readsFogs_71 : decode cX12_readsFogs 71 = .ok (.ifCond .ne 4, 3) := by decide +kernel
theorem dX12_readsFogs_74 : decode cX12_readsFogs 74 = .ok (.return_, 1) := by decide +kernel
theorem dX12_readsFogs_75 : decode cX12_readsFogs 75 = .ok (.aload_n 0, 1) := by decide +kernel
theorem dX12_readsFogs_76 : decode cX12_readsFogs 76 = .ok (.getfield 84, 3) := by decide +kernel
theorem dX12_readsFogs_79 : decode cX12_readsFogs 79 = .ok (.aload_n 0, 1) := by decide +kernel
theorem dX12_readsFogs_80 : decode cX12_readsFogs 80 = .ok (.getfield 305, 3) := by decide +kernel
theorem dX12_readsFogs_83 : decode cX12_readsFogs 83 = .ok (.iload_n 2, 1) := by decide +kernel
theorem dX12_readsFogs_84 : decode cX12_readsFogs 84 = .ok (.iastore, 1) := by decide +kernel
theorem dX12_readsFogs_85 : decode cX12_readsFogs 85 = .ok (.aload_n 0, 1) := by decide +kernel
theorem dX12_readsFogs_86 : decode cX12_readsFogs 86 = .ok (.dup, 1) := by decide +kernel
theorem dX12_readsFogs_87 : decode cX12_readsFogs 87 = .ok (.getfield 305, 3) := by decide +kernel
theorem dX12_readsFogs_90 : decode cX12_readsFogs 90 = .ok (.iconst 1, 1) := by decide +kernel
theorem dX12_readsFogs_91 : decode cX12_readsFogs 91 = .ok (.iadd, 1) := by decide +kernel
theorem dX12_readsFogs_92 : decode cX12_readsFogs 92 = .ok (.putfield 305, 3) := by decide +kernel
theorem dX12_readsFogs_95 : decode cX12_readsFogs 95 = .ok (.aload_n 0, 1) := by decide +kernel
theorem dX12_readsFogs_96 : decode cX12_readsFogs 96 = .ok (.getfield 192, 3) := by decide +kernel
theorem dX12_readsFogs_99 : decode cX12_readsFogs 99 = .ok (.iconst 2, 1) := by decide +kernel
theorem dX12_readsFogs_100 : decode cX12_readsFogs 100 = .ok (.if_icmp .ne 7, 3) := by decide +kernel
theorem dX12_readsFogs_103 : decode cX12_readsFogs 103 = .ok (.iconst 1, 1) := by decide +kernel
theorem dX12_readsFogs_104 : decode cX12_readsFogs 104 = .ok (.goto 4, 3) := by decide +kernel
theorem dX12_readsFogs_107 : decode cX12_readsFogs 107 = .ok (.iconst 0, 1) := by decide +kernel
theorem dX12_readsFogs_108 : decode cX12_readsFogs 108 = .ok (.istore_n 1, 1) := by decide +kernel
theorem dX12_readsFogs_109 : decode cX12_readsFogs 109 = .ok (.goto (-83), 3) := by decide +kernel
theorem dX12_readsFogs_112 : decode cX12_readsFogs 112 = .ok (.return_, 1) := by decide +kernel
theorem dX12_line_0 : decode cX12_line 0 = .ok (.aload_n 0, 1) := by decide +kernel
theorem dX12_line_1 : decode cX12_line 1 = .ok (.invokevirtual 247, 3) := by decide +kernel
theorem dX12_line_4 : decode cX12_line 4 = .ok (.istore_n 1, 1) := by decide +kernel
theorem dX12_line_5 : decode cX12_line 5 = .ok (.iload_n 1, 1) := by decide +kernel
theorem dX12_line_6 : decode cX12_line 6 = .ok (.bipush 7, 2) := by decide +kernel
theorem dX12_line_8 : decode cX12_line 8 = .ok (.if_icmp .ne 77, 3) := by decide +kernel
theorem dX12_line_11 : decode cX12_line 11 = .ok (.aload_n 0, 1) := by decide +kernel
theorem dX12_line_12 : decode cX12_line 12 = .ok (.getfield 308, 3) := by decide +kernel
theorem dX12_line_15 : decode cX12_line 15 = .ok (.bipush 12, 2) := by decide +kernel
theorem dX12_line_17 : decode cX12_line 17 = .ok (.if_icmp .ne 8, 3) := by decide +kernel
theorem dX12_line_20 : decode cX12_line 20 = .ok (.aload_n 0, 1) := by decide +kernel
theorem dX12_line_21 : decode cX12_line 21 = .ok (.iconst 2, 1) := by decide +kernel
theorem dX12_line_22 : decode cX12_line 22 = .ok (.invokevirtual 225, 3) := by decide +kernel
theorem dX12_line_25 : decode cX12_line 25 = .ok (.aload_n 0, 1) := by decide +kernel
theorem dX12_line_26 : decode cX12_line 26 = .ok (.invokevirtual 218, 3) := by decide +kernel
theorem dX12_line_29 : decode cX12_line 29 = .ok (.ifCond .ne 4, 3) := by decide +kernel
theorem dX12_line_32 : decode cX12_line 32 = .ok (.return_, 1) := by decide +kernel
theorem dX12_line_33 : decode cX12_line 33 = .ok (.aload_n 0, 1) := by decide +kernel
theorem dX12_line_34 : decode cX12_line 34 = .ok (.invokevirtual 222, 3) := by decide +kernel
theorem dX12_line_37 : decode cX12_line 37 = .ok (.aload_n 0, 1) := by decide +kernel
theorem dX12_line_38 : decode cX12_line 38 = .ok (.bipush 7, 2) := by decide +kernel
theorem dX12_line_40 : decode cX12_line 40 = .ok (.invokevirtual 298, 3) := by decide +kernel
theorem dX12_line_43 : decode cX12_line 43 = .ok (.istore_n 2, 1) := by decide +kernel
theorem dX12_line_44 : decode cX12_line 44 = .ok (.aload_n 0, 1) := by decide +kernel
theorem dX12_line_45 : decode cX12_line 45 = .ok (.invokevirtual 218, 3) := by decide +kernel
theorem dX12_line_48 : decode cX12_line 48 = .ok (.ifCond .ne 4, 3) := by decide +kernel
theorem dX12_line_51 : decode cX12_line 51 = .ok (.return_, 1) := by decide +kernel
theorem dX12_line_52 : decode cX12_line 52 = .ok (.aload_n 0, 1) := by decide +kernel
theorem dX12_line_53 : decode cX12_line 53 = .ok (.getfield 60, 3) := by decide +kernel
theorem dX12_line_56 : decode cX12_line 56 = .ok (.iload_n 2, 1) := by decide +kernel
theorem dX12_line_57 : decode cX12_line 57 = .ok (.dup2, 1) := by decide +kernel
theorem dX12_line_58 : decode cX12_line 58 = .ok (.iaload, 1) := by decide +kernel
theorem dX12_line_59 : decode cX12_line 59 = .ok (.iconst 1, 1) := by decide +kernel
theorem dX12_line_60 : decode cX12_line 60 = .ok (.ior, 1) := by decide +kernel
theorem dX12_line_61 : decode cX12_line 61 = .ok (.iastore, 1) := by decide +kernel
theorem dX12_line_62 : decode cX12_line 62 = .ok (.aload_n 0, 1) := by decide +kernel
theorem dX12_line_63 : decode cX12_line 63 = .ok (.getfield 63, 3) := by decide +kernel
theorem dX12_line_66 : decode cX12_line 66 = .ok (.aload_n 0, 1) := by decide +kernel
theorem dX12_line_67 : decode cX12_line 67 = .ok (.getfield 308, 3) := by decide +kernel
theorem dX12_line_70 : decode cX12_line 70 = .ok (.iload_n 2, 1) := by decide +kernel
theorem dX12_line_71 : decode cX12_line 71 = .ok (.iastore, 1) := by decide +kernel
theorem dX12_line_72 : decode cX12_line 72 = .ok (.aload_n 0, 1) := by decide +kernel
theorem dX12_line_73 : decode cX12_line 73 = .ok (.dup, 1) := by decide +kernel
theorem dX12_line_74 : decode cX12_line 74 = .ok (.getfield 308, 3) := by decide +kernel
theorem dX12_line_77 : decode cX12_line 77 = .ok (.iconst 1, 1) := by decide +kernel
theorem dX12_line_78 : decode cX12_line 78 = .ok (.iadd, 1) := by decide +kernel
theorem dX12_line_79 : decode cX12_line 79 = .ok (.putfield 308, 3) := by decide +kernel
theorem dX12_line_82 : decode cX12_line 82 = .ok (.goto 194, 3) := by decide +kernel
theorem dX12_line_85 : decode cX12_line 85 = .ok (.iload_n 1, 1) := by decide +kernel
theorem dX12_line_86 : decode cX12_line 86 = .ok (.iconst 2, 1) := by decide +kernel
theorem dX12_line_87 : decode cX12_line 87 = .ok (.if_icmp .ne 10, 3) := by decide +kernel
theorem dX12_line_90 : decode cX12_line 90 = .ok (.aload_n 0, 1) := by decide +kernel
theorem dX12_line_91 : decode cX12_line 91 = .ok (.invokevirtual 311, 3) := by decide +kernel
theorem dX12_line_94 : decode cX12_line 94 = .ok (.goto 182, 3) := by decide +kernel
theorem dX12_line_97 : decode cX12_line 97 = .ok (.iload_n 1, 1) := by decide +kernel
theorem dX12_line_98 : decode cX12_line 98 = .ok (.bipush 8, 2) := by decide +kernel
theorem dX12_line_100 : decode cX12_line 100 = .ok (.if_icmp .ne 97, 3) := by decide +kernel
theorem dX12_line_103 : decode cX12_line 103 = .ok (.aload_n 0, 1) := by decide +kernel
theorem dX12_line_104 : decode cX12_line 104 = .ok (.getfield 314, 3) := by decide +kernel
theorem dX12_line_107 : decode cX12_line 107 = .ok (.bipush 8, 2) := by decide +kernel
theorem dX12_line_109 : decode cX12_line 109 = .ok (.if_icmp .ne 8, 3) := by decide +kernel
theorem dX12_line_112 : decode cX12_line 112 = .ok (.aload_n 0, 1) := by decide +kernel
theorem dX12_line_113 : decode cX12_line 113 = .ok (.iconst 2, 1) := by decide +kernel
theorem dX12_line_114 : decode cX12_line 114 = .ok (.invokevirtual 225, 3) := by decide +kernel
theorem dX12_line_117 : decode cX12_line 117 = .ok (.aload_n 0, 1) := by decide +kernel
theorem dX12_line_118 : decode cX12_line 118 = .ok (.invokevirtual 218, 3) := by decide +kernel
theorem dX12_line_121 : decode cX12_line 121 = .ok (.ifCond .ne 4, 3) := by decide +kernel
theorem dX12_line_124 : decode cX12_line 124 = .ok (.return_, 1) := by decide +kernel
theorem dX12_line_125 : decode cX12_line 125 = .ok (.aload_n 0, 1) := by decide +kernel
theorem dX12_line_126 : decode cX12_line 126 = .ok (.invokevirtual 222, 3) := by decide +kernel
theorem dX12_line_129 : decode cX12_line 129 = .ok (.aload_n 0, 1) := by decide +kernel
theorem dX12_line_130 : decode cX12_line 130 = .ok (.iconst 5, 1) := by decide +kernel
theorem dX12_line_131 : decode cX12_line 131 = .ok (.invokevirtual 298, 3) := by decide +kernel
theorem dX12_line_134 : decode cX12_line 134 = .ok (.istore_n 2, 1) := by decide +kernel
theorem dX12_line_135 : decode cX12_line 135 = .ok (.aload_n 0, 1) := by decide +kernel
theorem dX12_line_136 : decode cX12_line 136 = .ok (.getfield 90, 3) := by decide +kernel
theorem dX12_line_139 : decode cX12_line 139 = .ok (.bipush 19, 2) := by decide +kernel
theorem dX12_line_141 : decode cX12_line 141 = .ok (.aload_n 0, 1) := by decide +kernel
theorem dX12_line_142 : decode cX12_line 142 = .ok (.getfield 314, 3) := by decide +kernel
theorem dX12_line_145 : decode cX12_line 145 = .ok (.iadd, 1) := by decide +kernel
theorem dX12_line_146 : decode cX12_line 146 = .ok (.aload_n 0, 1) := by decide +kernel
theorem dX12_line_147 : decode cX12_line 147 = .ok (.iconst 0, 1) := by decide +kernel
theorem dX12_line_148 : decode cX12_line 148 = .ok (.bipush 12, 2) := by decide +kernel
theorem dX12_line_150 : decode cX12_line 150 = .ok (.invokevirtual 282, 3) := by decide +kernel
theorem dX12_line_153 : decode cX12_line 153 = .ok (.iastore, 1) := by decide +kernel
theorem dX12_line_154 : decode cX12_line 154 = .ok (.aload_n 0, 1) := by decide +kernel
theorem dX12_line_155 : decode cX12_line 155 = .ok (.invokevirtual 218, 3) := by decide +kernel
theorem dX12_line_158 : decode cX12_line 158 = .ok (.ifCond .ne 4, 3) := by decide +kernel
theorem dX12_line_161 : decode cX12_line 161 = .ok (.return_, 1) := by decide +kernel
theorem dX12_line_162 : decode cX12_line 162 = .ok (.aload_n 0, 1) := by decide +kernel
theorem dX12_line_163 : decode cX12_line 163 = .ok (.getfield 90, 3) := by decide +kernel
theorem dX12_line_166 : decode cX12_line 166 = .ok (.iconst 5, 1) := by decide +kernel
theorem dX12_line_167 : decode cX12_line 167 = .ok (.aload_n 0, 1) := by decide +kernel
theorem dX12_line_168 : decode cX12_line 168 = .ok (.getfield 314, 3) := by decide +kernel
theorem dX12_line_171 : decode cX12_line 171 = .ok (.iadd, 1) := by decide +kernel
theorem dX12_line_172 : decode cX12_line 172 = .ok (.iload_n 2, 1) := by decide +kernel
theorem dX12_line_173 : decode cX12_line 173 = .ok (.iastore, 1) := by decide +kernel
theorem dX12_line_174 : decode cX12_line 174 = .ok (.aload_n 0, 1) := by decide +kernel
theorem dX12_line_175 : decode cX12_line 175 = .ok (.getfield 60, 3) := by decide +kernel
theorem dX12_line_178 : decode cX12_line 178 = .ok (.iload_n 2, 1) := by decide +kernel
theorem dX12_line_179 : decode cX12_line 179 = .ok (.dup2, 1) := by decide +kernel
theorem dX12_line_180 : decode cX12_line 180 = .ok (.iaload, 1) := by decide +kernel
theorem dX12_line_181 : decode cX12_line 181 = .ok (.iconst 4, 1) := by decide +kernel
theorem dX12_line_182 : decode cX12_line 182 = .ok (.ior, 1) := by decide +kernel
theorem dX12_line_183 : decode cX12_line 183 = .ok (.iastore, 1) := by decide +kernel
theorem dX12_line_184 : decode cX12_line 184 = .ok (.aload_n 0, 1) := by decide +kernel
theorem dX12_line_185 : decode cX12_line 185 = .ok (.dup, 1) := by decide +kernel
theorem dX12_line_186 : decode cX12_line 186 = .ok (.getfield 314, 3) := by decide +kernel
theorem dX12_line_189 : decode cX12_line 189 = .ok (.iconst 1, 1) := by decide +kernel
theorem dX12_line_190 : decode cX12_line 190 = .ok (.iadd, 1) := by decide +kernel
theorem dX12_line_191 : decode cX12_line 191 = .ok (.putfield 314, 3) := by decide +kernel
theorem dX12_line_194 : decode cX12_line 194 = .ok (.goto 82, 3) := by decide +kernel
theorem dX12_line_197 : decode cX12_line 197 = .ok (.iload_n 1, 1) := by decide +kernel
theorem dX12_line_198 : decode cX12_line 198 = .ok (.bipush 9, 2) := by decide +kernel
theorem dX12_line_200 : decode cX12_line 200 = .ok (.if_icmp .ne 10, 3) := by decide +kernel
theorem dX12_line_203 : decode cX12_line 203 = .ok (.aload_n 0, 1) := by decide +kernel
theorem dX12_line_204 : decode cX12_line 204 = .ok (.invokevirtual 317, 3) := by decide +kernel
theorem dX12_line_207 : decode cX12_line 207 = .ok (.goto 69, 3) := by decide +kernel
theorem dX12_line_210 : decode cX12_line 210 = .ok (.iload_n 1, 1) := by decide +kernel
theorem dX12_line_211 : decode cX12_line 211 = .ok (.bipush 10, 2) := by decide +kernel
theorem dX12_line_213 : decode cX12_line 213 = .ok (.if_icmp .ne 58, 3) := by decide +kernel
theorem dX12_line_216 : decode cX12_line 216 = .ok (.aload_n 0, 1) := by decide +kernel
theorem dX12_line_217 : decode cX12_line 217 = .ok (.getfield 320, 3) := by decide +kernel
theorem dX12_line_220 : decode cX12_line 220 = .ok (.iconst 3, 1) := by decide +kernel
theorem dX12_line_221 : decode cX12_line 221 = .ok (.if_icmp .ne 8, 3) := by decide +kernel
theorem dX12_line_224 : decode cX12_line 224 = .ok (.aload_n 0, 1) := by decide +kernel
theorem dX12_line_225 : decode cX12_line 225 = .ok (.iconst 2, 1) := by decide +kernel
theorem dX12_line_226 : decode cX12_line 226 = .ok (.invokevirtual 225, 3) := by decide +kernel
theorem dX12_line_229 : decode cX12_line 229 = .ok (.aload_n 0, 1) := by decide +kernel
theorem dX12_line_230 : decode cX12_line 230 = .ok (.invokevirtual 218, 3) := by decide +kernel
theorem dX12_line_233 : decode cX12_line 233 = .ok (.ifCond .ne 4, 3) := by decide +kernel
theorem dX12_line_236 : decode cX12_line 236 = .ok (.return_, 1) := by decide +kernel
theorem dX12_line_237 : decode cX12_line 237 = .ok (.aload_n 0, 1) := by decide +kernel
theorem dX12_line_238 : decode cX12_line 238 = .ok (.invokevirtual 222, 3) := by decide +kernel
theorem dX12_line_241 : decode cX12_line 241 = .ok (.aload_n 0, 1) := by decide +kernel
theorem dX12_line_242 : decode cX12_line 242 = .ok (.getfield 87, 3) := by decide +kernel
theorem dX12_line_245 : decode cX12_line 245 = .ok (.aload_n 0, 1) := by decide +kernel
theorem dX12_line_246 : decode cX12_line 246 = .ok (.getfield 320, 3) := by decide +kernel
theorem dX12_line_249 : decode cX12_line 249 = .ok (.aload_n 0, 1) := by decide +kernel
theorem dX12_line_250 : decode cX12_line 250 = .ok (.getfield 232, 3) := by decide +kernel
theorem dX12_line_253 : decode cX12_line 253 = .ok (.iastore, 1) := by decide +kernel
theorem dX12_line_254 : decode cX12_line 254 = .ok (.aload_n 0, 1) := by decide +kernel
theorem dX12_line_255 : decode cX12_line 255 = .ok (.dup, 1) := by decide +kernel
theorem dX12_line_256 : decode cX12_line 256 = .ok (.getfield 320, 3) := by decide +kernel
theorem dX12_line_259 : decode cX12_line 259 = .ok (.iconst 1, 1) := by decide +kernel
theorem dX12_line_260 : decode cX12_line 260 = .ok (.iadd, 1) := by decide +kernel
theorem dX12_line_261 : decode cX12_line 261 = .ok (.putfield 320, 3) := by decide +kernel
theorem dX12_line_264 : decode cX12_line 264 = .ok (.aload_n 0, 1) := by decide +kernel
theorem dX12_line_265 : decode cX12_line 265 = .ok (.invokevirtual 323, 3) := by decide +kernel
theorem dX12_line_268 : decode cX12_line 268 = .ok (.goto 8, 3) := by decide +kernel
theorem dX12_line_271 : decode cX12_line 271 = .ok (.aload_n 0, 1) := by decide +kernel
theorem dX12_line_272 : decode cX12_line 272 = .ok (.iconst 1, 1) := by decide +kernel
theorem dX12_line_273 : decode cX12_line 273 = .ok (.invokevirtual 225, 3) := by decide +kernel
theorem dX12_line_276 : decode cX12_line 276 = .ok (.aload_n 0, 1) := by decide +kernel
theorem dX12_line_277 : decode cX12_line 277 = .ok (.aload_n 0, 1) := by decide +kernel
theorem dX12_line_278 : decode cX12_line 278 = .ok (.bipush 59, 2) := by decide +kernel
theorem dX12_line_280 : decode cX12_line 280 = .ok (.invokevirtual 254, 3) := by decide +kernel
theorem dX12_line_283 : decode cX12_line 283 = .ok (.invokevirtual 326, 3) := by decide +kernel
theorem dX12_line_286 : decode cX12_line 286 = .ok (.return_, 1) := by decide +kernel
theorem dX12_coast_0 : decode cX12_coast 0 = .ok (.aload_n 0, 1) := by decide +kernel
theorem dX12_coast_1 : decode cX12_coast 1 = .ok (.iconst 0, 1) := by decide +kernel
theorem dX12_coast_2 : decode cX12_coast 2 = .ok (.putfield 159, 3) := by decide +kernel
theorem dX12_coast_5 : decode cX12_coast 5 = .ok (.aload_n 0, 1) := by decide +kernel
theorem dX12_coast_6 : decode cX12_coast 6 = .ok (.iload_n 1, 1) := by decide +kernel
theorem dX12_coast_7 : decode cX12_coast 7 = .ok (.ifCond .lt 15, 3) := by decide +kernel
theorem dX12_coast_10 : decode cX12_coast 10 = .ok (.iload_n 1, 1) := by decide +kernel
theorem dX12_coast_11 : decode cX12_coast 11 = .ok (.aload_n 0, 1) := by decide +kernel
theorem dX12_coast_12 : decode cX12_coast 12 = .ok (.getfield 162, 3) := by decide +kernel
theorem dX12_coast_15 : decode cX12_coast 15 = .ok (.if_icmp .gt 7, 3) := by decide +kernel
theorem dX12_coast_18 : decode cX12_coast 18 = .ok (.iconst 1, 1) := by decide +kernel
theorem dX12_coast_19 : decode cX12_coast 19 = .ok (.goto 4, 3) := by decide +kernel
theorem dX12_coast_22 : decode cX12_coast 22 = .ok (.iconst 0, 1) := by decide +kernel
theorem dX12_coast_23 : decode cX12_coast 23 = .ok (.iconst 1, 1) := by decide +kernel
theorem dX12_coast_24 : decode cX12_coast 24 = .ok (.invokevirtual 329, 3) := by decide +kernel
theorem dX12_coast_27 : decode cX12_coast 27 = .ok (.ifCond .ne 5, 3) := by decide +kernel
theorem dX12_coast_30 : decode cX12_coast 30 = .ok (.iconst 0, 1) := by decide +kernel
theorem dX12_coast_31 : decode cX12_coast 31 = .ok (.ireturn, 1) := by decide +kernel
theorem dX12_coast_32 : decode cX12_coast 32 = .ok (.aload_n 0, 1) := by decide +kernel
theorem dX12_coast_33 : decode cX12_coast 33 = .ok (.iconst 0, 1) := by decide +kernel
theorem dX12_coast_34 : decode cX12_coast 34 = .ok (.putfield 162, 3) := by decide +kernel
theorem dX12_coast_37 : decode cX12_coast 37 = .ok (.aload_n 0, 1) := by decide +kernel
theorem dX12_coast_38 : decode cX12_coast 38 = .ok (.iconst (-1), 1) := by decide +kernel
theorem dX12_coast_39 : decode cX12_coast 39 = .ok (.putfield 54, 3) := by decide +kernel
theorem dX12_coast_42 : decode cX12_coast 42 = .ok (.aload_n 0, 1) := by decide +kernel
theorem dX12_coast_43 : decode cX12_coast 43 = .ok (.iconst 0, 1) := by decide +kernel
theorem dX12_coast_44 : decode cX12_coast 44 = .ok (.putfield 215, 3) := by decide +kernel
theorem dX12_coast_47 : decode cX12_coast 47 = .ok (.aload_n 0, 1) := by decide +kernel
theorem dX12_coast_48 : decode cX12_coast 48 = .ok (.iload_n 1, 1) := by decide +kernel
theorem dX12_coast_49 : decode cX12_coast 49 = .ok (.putfield 169, 3) := by decide +kernel
theorem dX12_coast_52 : decode cX12_coast 52 = .ok (.aload_n 0, 1) := by decide +kernel
theorem dX12_coast_53 : decode cX12_coast 53 = .ok (.iconst 0, 1) := by decide +kernel
theorem dX12_coast_54 : decode cX12_coast 54 = .ok (.putfield 172, 3) := by decide +kernel
theorem dX12_coast_57 : decode cX12_coast 57 = .ok (.aload_n 0, 1) := by decide +kernel
theorem dX12_coast_58 : decode cX12_coast 58 = .ok (.bipush 8, 2) := by decide +kernel
theorem dX12_coast_60 : decode cX12_coast 60 = .ok (.putfield 279, 3) := by decide +kernel
theorem dX12_coast_63 : decode cX12_coast 63 = .ok (.aload_n 0, 1) := by decide +kernel
theorem dX12_coast_64 : decode cX12_coast 64 = .ok (.bipush 8, 2) := by decide +kernel
theorem dX12_coast_66 : decode cX12_coast 66 = .ok (.putfield 286, 3) := by decide +kernel
theorem dX12_coast_69 : decode cX12_coast 69 = .ok (.aload_n 0, 1) := by decide +kernel
theorem dX12_coast_70 : decode cX12_coast 70 = .ok (.iconst 0, 1) := by decide +kernel
theorem dX12_coast_71 : decode cX12_coast 71 = .ok (.putfield 308, 3) := by decide +kernel
theorem dX12_coast_74 : decode cX12_coast 74 = .ok (.aload_n 0, 1) := by decide +kernel
theorem dX12_coast_75 : decode cX12_coast 75 = .ok (.iconst 0, 1) := by decide +kernel
theorem dX12_coast_76 : decode cX12_coast 76 = .ok (.putfield 295, 3) := by decide +kernel
theorem dX12_coast_79 : decode cX12_coast 79 = .ok (.aload_n 0, 1) := by decide +kernel
theorem dX12_coast_80 : decode cX12_coast 80 = .ok (.iconst 0, 1) := by decide +kernel
theorem dX12_coast_81 : decode cX12_coast 81 = .ok (.putfield 314, 3) := by decide +kernel
theorem dX12_coast_84 : decode cX12_coast 84 = .ok (.aload_n 0, 1) := by decide +kernel
theorem dX12_coast_85 : decode cX12_coast 85 = .ok (.iconst 0, 1) := by decide +kernel
theorem dX12_coast_86 : decode cX12_coast 86 = .ok (.putfield 305, 3) := by decide +kernel
theorem dX12_coast_89 : decode cX12_coast 89 = .ok (.aload_n 0, 1) := by decide +kernel
theorem dX12_coast_90 : decode cX12_coast 90 = .ok (.iconst 0, 1) := by decide +kernel
theorem dX12_coast_91 : decode cX12_coast 91 = .ok (.putfield 320, 3) := by decide +kernel
theorem dX12_coast_94 : decode cX12_coast 94 = .ok (.aload_n 0, 1) := by decide +kernel
theorem dX12_coast_95 : decode cX12_coast 95 = .ok (.iconst 0, 1) := by decide +kernel
theorem dX12_coast_96 : decode cX12_coast 96 = .ok (.putfield 232, 3) := by decide +kernel
theorem dX12_coast_99 : decode cX12_coast 99 = .ok (.iconst 0, 1) := by decide +kernel
theorem dX12_coast_100 : decode cX12_coast 100 = .ok (.istore_n 2, 1) := by decide +kernel
theorem dX12_coast_101 : decode cX12_coast 101 = .ok (.iload_n 2, 1) := by decide +kernel
theorem dX12_coast_102 : decode cX12_coast 102 = .ok (.sipush 144, 3) := by decide +kernel
theorem dX12_coast_105 : decode cX12_coast 105 = .ok (.if_icmp .ge 16, 3) := by decide +kernel
theorem dX12_coast_108 : decode cX12_coast 108 = .ok (.aload_n 0, 1) := by decide +kernel
theorem dX12_coast_109 : decode cX12_coast 109 = .ok (.getfield 60, 3) := by decide +kernel
theorem dX12_coast_112 : decode cX12_coast 112 = .ok (.iload_n 2, 1) := by decide +kernel
theorem dX12_coast_113 : decode cX12_coast 113 = .ok (.iconst 0, 1) := by decide +kernel
theorem dX12_coast_114 : decode cX12_coast 114 = .ok (.iastore, 1) := by decide +kernel
theorem dX12_coast_115 : decode cX12_coast 115 = .ok (.iinc 2 1, 3) := by decide +kernel
theorem dX12_coast_118 : decode cX12_coast 118 = .ok (.goto (-17), 3) := by decide +kernel
theorem dX12_coast_121 : decode cX12_coast 121 = .ok (.aload_n 0, 1) := by decide +kernel
theorem dX12_coast_122 : decode cX12_coast 122 = .ok (.invokevirtual 222, 3) := by decide +kernel
theorem dX12_coast_125 : decode cX12_coast 125 = .ok (.aload_n 0, 1) := by decide +kernel
theorem dX12_coast_126 : decode cX12_coast 126 = .ok (.invokevirtual 247, 3) := by decide +kernel
theorem dX12_coast_129 : decode cX12_coast 129 = .ok (.bipush 6, 2) := by decide +kernel
theorem dX12_coast_131 : decode cX12_coast 131 = .ok (.if_icmp .ne 39, 3) := by decide +kernel
theorem dX12_coast_134 : decode cX12_coast 134 = .ok (.aload_n 0, 1) := by decide +kernel
theorem dX12_coast_135 : decode cX12_coast 135 = .ok (.invokevirtual 222, 3) := by decide +kernel
theorem dX12_coast_138 : decode cX12_coast 138 = .ok (.aload_n 0, 1) := by decide +kernel
theorem dX12_coast_139 : decode cX12_coast 139 = .ok (.aload_n 0, 1) := by decide +kernel
theorem dX12_coast_140 : decode cX12_coast 140 = .ok (.iconst 1, 1) := by decide +kernel
theorem dX12_coast_141 : decode cX12_coast 141 = .ok (.bipush 12, 2) := by decide +kernel
theorem dX12_coast_143 : decode cX12_coast 143 = .ok (.invokevirtual 282, 3) := by decide +kernel
theorem dX12_coast_146 : decode cX12_coast 146 = .ok (.putfield 279, 3) := by decide +kernel
theorem dX12_coast_149 : decode cX12_coast 149 = .ok (.aload_n 0, 1) := by decide +kernel
theorem dX12_coast_150 : decode cX12_coast 150 = .ok (.aload_n 0, 1) := by decide +kernel
theorem dX12_coast_151 : decode cX12_coast 151 = .ok (.iconst 1, 1) := by decide +kernel
theorem dX12_coast_152 : decode cX12_coast 152 = .ok (.bipush 12, 2) := by decide +kernel
theorem dX12_coast_154 : decode cX12_coast 154 = .ok (.invokevirtual 282, 3) := by decide +kernel
theorem dX12_coast_157 : decode cX12_coast 157 = .ok (.putfield 286, 3) := by decide +kernel
theorem dX12_coast_160 : decode cX12_coast 160 = .ok (.aload_n 0, 1) := by decide +kernel
theorem dX12_coast_161 : decode cX12_coast 161 = .ok (.aload_n 0, 1) := by decide +kernel
theorem dX12_coast_162 : decode cX12_coast 162 = .ok (.bipush 59, 2) := by decide +kernel
theorem dX12_coast_164 : decode cX12_coast 164 = .ok (.invokevirtual 254, 3) := by decide +kernel
theorem dX12_coast_167 : decode cX12_coast 167 = .ok (.invokevirtual 326, 3) := by decide +kernel
theorem dX12_coast_170 : decode cX12_coast 170 = .ok (.aload_n 0, 1) := by decide +kernel
theorem dX12_coast_171 : decode cX12_coast 171 = .ok (.invokevirtual 218, 3) := by decide +kernel
theorem dX12_coast_174 : decode cX12_coast 174 = .ok (.ifCond .eq 17, 3) := by decide +kernel
theorem dX12_coast_177 : decode cX12_coast 177 = .ok (.aload_n 0, 1) := by decide +kernel
theorem dX12_coast_178 : decode cX12_coast 178 = .ok (.getfield 192, 3) := by decide +kernel
theorem dX12_coast_181 : decode cX12_coast 181 = .ok (.ifCond .eq 10, 3) := by decide +kernel
theorem dX12_coast_184 : decode cX12_coast 184 = .ok (.aload_n 0, 1) := by decide +kernel
theorem dX12_coast_185 : decode cX12_coast 185 = .ok (.invokevirtual 333, 3) := by decide +kernel
theorem dX12_coast_188 : decode cX12_coast 188 = .ok (.goto (-18), 3) := by decide +kernel
theorem dX12_coast_191 : decode cX12_coast 191 = .ok (.aload_n 0, 1) := by decide +kernel
theorem dX12_coast_192 : decode cX12_coast 192 = .ok (.invokevirtual 218, 3) := by decide +kernel
theorem dX12_coast_195 : decode cX12_coast 195 = .ok (.ifCond .ne 18, 3) := by decide +kernel
theorem dX12_coast_198 : decode cX12_coast 198 = .ok (.aload_n 0, 1) := by decide +kernel
theorem dX12_coast_199 : decode cX12_coast 199 = .ok (.getfield 57, 3) := by decide +kernel
theorem dX12_coast_202 : decode cX12_coast 202 = .ok (.iconst 0, 1) := by decide +kernel
theorem dX12_coast_203 : decode cX12_coast 203 = .ok (.dup2, 1) := by decide +kernel
theorem dX12_coast_204 : decode cX12_coast 204 = .ok (.iaload, 1) := by decide +kernel
theorem dX12_coast_205 : decode cX12_coast 205 = .ok (.iconst 1, 1) := by decide +kernel
theorem dX12_coast_206 : decode cX12_coast 206 = .ok (.iadd, 1) := by decide +kernel
theorem dX12_coast_207 : decode cX12_coast 207 = .ok (.iastore, 1) := by decide +kernel
theorem dX12_coast_208 : decode cX12_coast 208 = .ok (.aload_n 0, 1) := by decide +kernel
theorem dX12_coast_209 : decode cX12_coast 209 = .ok (.getfield 215, 3) := by decide +kernel
theorem dX12_coast_212 : decode cX12_coast 212 = .ok (.ireturn, 1) := by decide +kernel
theorem dX12_coast_213 : decode cX12_coast 213 = .ok (.aload_n 0, 1) := by decide +kernel
theorem dX12_coast_214 : decode cX12_coast 214 = .ok (.aload_n 0, 1) := by decide +kernel
theorem dX12_coast_215 : decode cX12_coast 215 = .ok (.getfield 279, 3) := by decide +kernel
theorem dX12_coast_218 : decode cX12_coast 218 = .ok (.putfield 7, 3) := by decide +kernel
theorem dX12_coast_221 : decode cX12_coast 221 = .ok (.aload_n 0, 1) := by decide +kernel
theorem dX12_coast_222 : decode cX12_coast 222 = .ok (.aload_n 0, 1) := by decide +kernel
theorem dX12_coast_223 : decode cX12_coast 223 = .ok (.getfield 286, 3) := by decide +kernel
theorem dX12_coast_226 : decode cX12_coast 226 = .ok (.putfield 13, 3) := by decide +kernel
theorem dX12_coast_229 : decode cX12_coast 229 = .ok (.aload_n 0, 1) := by decide +kernel
theorem dX12_coast_230 : decode cX12_coast 230 = .ok (.aload_n 0, 1) := by decide +kernel
theorem dX12_coast_231 : decode cX12_coast 231 = .ok (.getfield 308, 3) := by decide +kernel
theorem dX12_coast_234 : decode cX12_coast 234 = .ok (.putfield 336, 3) := by decide +kernel
theorem dX12_coast_237 : decode cX12_coast 237 = .ok (.aload_n 0, 1) := by decide +kernel
theorem dX12_coast_238 : decode cX12_coast 238 = .ok (.aload_n 0, 1) := by decide +kernel
theorem dX12_coast_239 : decode cX12_coast 239 = .ok (.getfield 295, 3) := by decide +kernel
theorem dX12_coast_242 : decode cX12_coast 242 = .ok (.putfield 339, 3) := by decide +kernel
theorem dX12_coast_245 : decode cX12_coast 245 = .ok (.aload_n 0, 1) := by decide +kernel
theorem dX12_coast_246 : decode cX12_coast 246 = .ok (.aload_n 0, 1) := by decide +kernel
theorem dX12_coast_247 : decode cX12_coast 247 = .ok (.getfield 314, 3) := by decide +kernel
theorem dX12_coast_250 : decode cX12_coast 250 = .ok (.putfield 342, 3) := by decide +kernel
theorem dX12_coast_253 : decode cX12_coast 253 = .ok (.aload_n 0, 1) := by decide +kernel
theorem dX12_coast_254 : decode cX12_coast 254 = .ok (.aload_n 0, 1) := by decide +kernel
theorem dX12_coast_255 : decode cX12_coast 255 = .ok (.getfield 305, 3) := by decide +kernel
theorem dX12_coast_258 : decode cX12_coast 258 = .ok (.putfield 345, 3) := by decide +kernel
theorem dX12_coast_261 : decode cX12_coast 261 = .ok (.aload_n 0, 1) := by decide +kernel
theorem dX12_coast_262 : decode cX12_coast 262 = .ok (.aload_n 0, 1) := by decide +kernel
theorem dX12_coast_263 : decode cX12_coast 263 = .ok (.getfield 320, 3) := by decide +kernel
theorem dX12_coast_266 : decode cX12_coast 266 = .ok (.putfield 348, 3) := by decide +kernel
theorem dX12_coast_269 : decode cX12_coast 269 = .ok (.iconst 0, 1) := by decide +kernel
theorem dX12_coast_270 : decode cX12_coast 270 = .ok (.istore_n 2, 1) := by decide +kernel
theorem dX12_coast_271 : decode cX12_coast 271 = .ok (.iload_n 2, 1) := by decide +kernel
theorem dX12_coast_272 : decode cX12_coast 272 = .ok (.sipush 144, 3) := by decide +kernel
theorem dX12_coast_275 : decode cX12_coast 275 = .ok (.if_icmp .ge 32, 3) := by decide +kernel
theorem dX12_coast_278 : decode cX12_coast 278 = .ok (.aload_n 0, 1) := by decide +kernel
theorem dX12_coast_279 : decode cX12_coast 279 = .ok (.getfield 47, 3) := by decide +kernel
theorem dX12_coast_282 : decode cX12_coast 282 = .ok (.iload_n 2, 1) := by decide +kernel
theorem dX12_coast_283 : decode cX12_coast 283 = .ok (.aload_n 0, 1) := by decide +kernel
theorem dX12_coast_284 : decode cX12_coast 284 = .ok (.getfield 60, 3) := by decide +kernel
theorem dX12_coast_287 : decode cX12_coast 287 = .ok (.iload_n 2, 1) := by decide +kernel
theorem dX12_coast_288 : decode cX12_coast 288 = .ok (.iaload, 1) := by decide +kernel
theorem dX12_coast_289 : decode cX12_coast 289 = .ok (.iconst 1, 1) := by decide +kernel
theorem dX12_coast_290 : decode cX12_coast 290 = .ok (.iand, 1) := by decide +kernel
theorem dX12_coast_291 : decode cX12_coast 291 = .ok (.iconst 1, 1) := by decide +kernel
theorem dX12_coast_292 : decode cX12_coast 292 = .ok (.if_icmp .ne 7, 3) := by decide +kernel
theorem dX12_coast_295 : decode cX12_coast 295 = .ok (.iconst 1, 1) := by decide +kernel
theorem dX12_coast_296 : decode cX12_coast 296 = .ok (.goto 4, 3) := by decide +kernel
theorem dX12_coast_299 : decode cX12_coast 299 = .ok (.iconst 0, 1) := by decide +kernel
theorem dX12_coast_300 : decode cX12_coast 300 = .ok (.bastore, 1) := by decide +kernel
theorem dX12_coast_301 : decode cX12_coast 301 = .ok (.iinc 2 1, 3) := by decide +kernel
theorem dX12_coast_304 : decode cX12_coast 304 = .ok (.goto (-33), 3) := by decide +kernel
theorem dX12_coast_307 : decode cX12_coast 307 = .ok (.aload_n 0, 1) := by decide +kernel
theorem dX12_coast_308 : decode cX12_coast 308 = .ok (.aload_n 0, 1) := by decide +kernel
theorem dX12_coast_309 : decode cX12_coast 309 = .ok (.getfield 63, 3) := by decide +kernel
theorem dX12_coast_312 : decode cX12_coast 312 = .ok (.aload_n 0, 1) := by decide +kernel
theorem dX12_coast_313 : decode cX12_coast 313 = .ok (.getfield 16, 3) := by decide +kernel
theorem dX12_coast_316 : decode cX12_coast 316 = .ok (.invokevirtual 351, 3) := by decide +kernel
theorem dX12_coast_319 : decode cX12_coast 319 = .ok (.aload_n 0, 1) := by decide +kernel
theorem dX12_coast_320 : decode cX12_coast 320 = .ok (.aload_n 0, 1) := by decide +kernel
theorem dX12_coast_321 : decode cX12_coast 321 = .ok (.getfield 66, 3) := by decide +kernel
theorem dX12_coast_324 : decode cX12_coast 324 = .ok (.aload_n 0, 1) := by decide +kernel
theorem dX12_coast_325 : decode cX12_coast 325 = .ok (.getfield 20, 3) := by decide +kernel
theorem dX12_coast_328 : decode cX12_coast 328 = .ok (.invokevirtual 351, 3) := by decide +kernel
theorem dX12_coast_331 : decode cX12_coast 331 = .ok (.aload_n 0, 1) := by decide +kernel
theorem dX12_coast_332 : decode cX12_coast 332 = .ok (.aload_n 0, 1) := by decide +kernel
theorem dX12_coast_333 : decode cX12_coast 333 = .ok (.getfield 69, 3) := by decide +kernel
theorem dX12_coast_336 : decode cX12_coast 336 = .ok (.aload_n 0, 1) := by decide +kernel
theorem dX12_coast_337 : decode cX12_coast 337 = .ok (.getfield 23, 3) := by decide +kernel
theorem dX12_coast_340 : decode cX12_coast 340 = .ok (.invokevirtual 351, 3) := by decide +kernel
theorem dX12_coast_343 : decode cX12_coast 343 = .ok (.aload_n 0, 1) := by decide +kernel
theorem dX12_coast_344 : decode cX12_coast 344 = .ok (.aload_n 0, 1) := by decide +kernel
theorem dX12_coast_345 : decode cX12_coast 345 = .ok (.getfield 72, 3) := by decide +kernel
theorem dX12_coast_348 : decode cX12_coast 348 = .ok (.aload_n 0, 1) := by decide +kernel
theorem dX12_coast_349 : decode cX12_coast 349 = .ok (.getfield 26, 3) := by decide +kernel
theorem dX12_coast_352 : decode cX12_coast 352 = .ok (.invokevirtual 351, 3) := by decide +kernel
theorem dX12_coast_355 : decode cX12_coast 355 = .ok (.aload_n 0, 1) := by decide +kernel
theorem dX12_coast_356 : decode cX12_coast 356 = .ok (.aload_n 0, 1) := by decide +kernel
theorem dX12_coast_357 : decode cX12_coast 357 = .ok (.getfield 75, 3) := by decide +kernel
theorem dX12_coast_360 : decode cX12_coast 360 = .ok (.aload_n 0, 1) := by decide +kernel
theorem dX12_coast_361 : decode cX12_coast 361 = .ok (.getfield 29, 3) := by decide +kernel
theorem dX12_coast_364 : decode cX12_coast 364 = .ok (.invokevirtual 351, 3) := by decide +kernel
theorem dX12_coast_367 : decode cX12_coast 367 = .ok (.aload_n 0, 1) := by decide +kernel
theorem dX12_coast_368 : decode cX12_coast 368 = .ok (.aload_n 0, 1) := by decide +kernel
theorem dX12_coast_369 : decode cX12_coast 369 = .ok (.getfield 78, 3) := by decide +kernel
theorem dX12_coast_372 : decode cX12_coast 372 = .ok (.aload_n 0, 1) := by decide +kernel
theorem dX12_coast_373 : decode cX12_coast 373 = .ok (.getfield 32, 3) := by decide +kernel
theorem dX12_coast_376 : decode cX12_coast 376 = .ok (.invokevirtual 351, 3) := by decide +kernel
theorem dX12_coast_379 : decode cX12_coast 379 = .ok (.aload_n 0, 1) := by decide +kernel
theorem dX12_coast_380 : decode cX12_coast 380 = .ok (.aload_n 0, 1) := by decide +kernel
theorem dX12_coast_381 : decode cX12_coast 381 = .ok (.getfield 81, 3) := by decide +kernel
theorem dX12_coast_384 : decode cX12_coast 384 = .ok (.aload_n 0, 1) := by decide +kernel
theorem dX12_coast_385 : decode cX12_coast 385 = .ok (.getfield 35, 3) := by decide +kernel
theorem dX12_coast_388 : decode cX12_coast 388 = .ok (.invokevirtual 351, 3) := by decide +kernel
theorem dX12_coast_391 : decode cX12_coast 391 = .ok (.aload_n 0, 1) := by decide +kernel
theorem dX12_coast_392 : decode cX12_coast 392 = .ok (.aload_n 0, 1) := by decide +kernel
theorem dX12_coast_393 : decode cX12_coast 393 = .ok (.getfield 84, 3) := by decide +kernel
theorem dX12_coast_396 : decode cX12_coast 396 = .ok (.aload_n 0, 1) := by decide +kernel
theorem dX12_coast_397 : decode cX12_coast 397 = .ok (.getfield 38, 3) := by decide +kernel
theorem dX12_coast_400 : decode cX12_coast 400 = .ok (.invokevirtual 351, 3) := by decide +kernel
theorem dX12_coast_403 : decode cX12_coast 403 = .ok (.aload_n 0, 1) := by decide +kernel
theorem dX12_coast_404 : decode cX12_coast 404 = .ok (.aload_n 0, 1) := by decide +kernel
theorem dX12_coast_405 : decode cX12_coast 405 = .ok (.getfield 87, 3) := by decide +kernel
theorem dX12_coast_408 : decode cX12_coast 408 = .ok (.aload_n 0, 1) := by decide +kernel
theorem dX12_coast_409 : decode cX12_coast 409 = .ok (.getfield 41, 3) := by decide +kernel
theorem dX12_coast_412 : decode cX12_coast 412 = .ok (.invokevirtual 351, 3) := by decide +kernel
theorem dX12_coast_415 : decode cX12_coast 415 = .ok (.aload_n 0, 1) := by decide +kernel
theorem dX12_coast_416 : decode cX12_coast 416 = .ok (.aload_n 0, 1) := by decide +kernel
theorem dX12_coast_417 : decode cX12_coast 417 = .ok (.getfield 93, 3) := by decide +kernel
theorem dX12_coast_420 : decode cX12_coast 420 = .ok (.aload_n 0, 1) := by decide +kernel
theorem dX12_coast_421 : decode cX12_coast 421 = .ok (.getfield 44, 3) := by decide +kernel
theorem dX12_coast_424 : decode cX12_coast 424 = .ok (.invokevirtual 351, 3) := by decide +kernel
theorem dX12_coast_427 : decode cX12_coast 427 = .ok (.aload_n 0, 1) := by decide +kernel
theorem dX12_coast_428 : decode cX12_coast 428 = .ok (.aload_n 0, 1) := by decide +kernel
theorem dX12_coast_429 : decode cX12_coast 429 = .ok (.getfield 90, 3) := by decide +kernel
theorem dX12_coast_432 : decode cX12_coast 432 = .ok (.aload_n 0, 1) := by decide +kernel
theorem dX12_coast_433 : decode cX12_coast 433 = .ok (.getfield 102, 3) := by decide +kernel
theorem dX12_coast_436 : decode cX12_coast 436 = .ok (.invokevirtual 351, 3) := by decide +kernel
theorem dX12_coast_439 : decode cX12_coast 439 = .ok (.aload_n 0, 1) := by decide +kernel
theorem dX12_coast_440 : decode cX12_coast 440 = .ok (.getfield 102, 3) := by decide +kernel
theorem dX12_coast_443 : decode cX12_coast 443 = .ok (.bipush 18, 2) := by decide +kernel
theorem dX12_coast_445 : decode cX12_coast 445 = .ok (.aload_n 0, 1) := by decide +kernel
theorem dX12_coast_446 : decode cX12_coast 446 = .ok (.getfield 348, 3) := by decide +kernel
theorem dX12_coast_449 : decode cX12_coast 449 = .ok (.ifCond .le 7, 3) := by decide +kernel
theorem dX12_coast_452 : decode cX12_coast 452 = .ok (.iconst 0, 1) := by decide +kernel
theorem dX12_coast_453 : decode cX12_coast 453 = .ok (.goto 4, 3) := by decide +kernel
theorem dX12_coast_456 : decode cX12_coast 456 = .ok (.iconst (-1), 1) := by decide +kernel
theorem dX12_coast_457 : decode cX12_coast 457 = .ok (.iastore, 1) := by decide +kernel
theorem dX12_coast_458 : decode cX12_coast 458 = .ok (.aload_n 0, 1) := by decide +kernel
theorem dX12_coast_459 : decode cX12_coast 459 = .ok (.iconst 0, 1) := by decide +kernel
theorem dX12_coast_460 : decode cX12_coast 460 = .ok (.putfield 355, 3) := by decide +kernel
theorem dX12_coast_463 : decode cX12_coast 463 = .ok (.aload_n 0, 1) := by decide +kernel
theorem dX12_coast_464 : decode cX12_coast 464 = .ok (.iconst 0, 1) := by decide +kernel
theorem dX12_coast_465 : decode cX12_coast 465 = .ok (.putfield 358, 3) := by decide +kernel
theorem dX12_coast_468 : decode cX12_coast 468 = .ok (.aload_n 0, 1) := by decide +kernel
theorem dX12_coast_469 : decode cX12_coast 469 = .ok (.iconst 0, 1) := by decide +kernel
theorem dX12_coast_470 : decode cX12_coast 470 = .ok (.putfield 361, 3) := by decide +kernel
theorem dX12_coast_473 : decode cX12_coast 473 = .ok (.iconst 0, 1) := by decide +kernel
theorem dX12_coast_474 : decode cX12_coast 474 = .ok (.ireturn, 1) := by decide +kernel
theorem dX12_fault_0 : decode cX12_fault 0 = .ok (.aload_n 0, 1) := by decide +kernel
theorem dX12_fault_1 : decode cX12_fault 1 = .ok (.iconst 0, 1) := by decide +kernel
theorem dX12_fault_2 : decode cX12_fault 2 = .ok (.putfield 159, 3) := by decide +kernel
theorem dX12_fault_5 : decode cX12_fault 5 = .ok (.aload_n 0, 1) := by decide +kernel
theorem dX12_fault_6 : decode cX12_fault 6 = .ok (.getfield 54, 3) := by decide +kernel
theorem dX12_fault_9 : decode cX12_fault 9 = .ok (.ireturn, 1) := by decide +kernel
theorem dX12_refuses_0 : decode cX12_refuses 0 = .ok (.aload_n 0, 1) := by decide +kernel
theorem dX12_refuses_1 : decode cX12_refuses 1 = .ok (.getfield 57, 3) := by decide +kernel
theorem dX12_refuses_4 : decode cX12_refuses 4 = .ok (.iload_n 1, 1) := by decide +kernel
theorem dX12_refuses_5 : decode cX12_refuses 5 = .ok (.dup2, 1) := by decide +kernel
theorem dX12_refuses_6 : decode cX12_refuses 6 = .ok (.iaload, 1) := by decide +kernel
theorem dX12_refuses_7 : decode cX12_refuses 7 = .ok (.iconst 1, 1) := by decide +kernel
theorem dX12_refuses_8 : decode cX12_refuses 8 = .ok (.iadd, 1) := by decide +kernel
theorem dX12_refuses_9 : decode cX12_refuses 9 = .ok (.iastore, 1) := by decide +kernel
theorem dX12_refuses_10 : decode cX12_refuses 10 = .ok (.iconst (-1), 1) := by decide +kernel
theorem dX12_refuses_11 : decode cX12_refuses 11 = .ok (.ireturn, 1) := by decide +kernel
theorem dX12_becomes_0 : decode cX12_becomes 0 = .ok (.aload_n 0, 1) := by decide +kernel
theorem dX12_becomes_1 : decode cX12_becomes 1 = .ok (.getfield 355, 3) := by decide +kernel
theorem dX12_becomes_4 : decode cX12_becomes 4 = .ok (.bipush 40, 2) := by decide +kernel
theorem dX12_becomes_6 : decode cX12_becomes 6 = .ok (.if_icmp .ne 41, 3) := by decide +kernel
theorem dX12_becomes_9 : decode cX12_becomes 9 = .ok (.iconst 2, 1) := by decide +kernel
theorem dX12_becomes_10 : decode cX12_becomes 10 = .ok (.istore_n 3, 1) := by decide +kernel
theorem dX12_becomes_11 : decode cX12_becomes 11 = .ok (.iload_n 3, 1) := by decide +kernel
theorem dX12_becomes_12 : decode cX12_becomes 12 = .ok (.bipush 80, 2) := by decide +kernel
theorem dX12_becomes_14 : decode cX12_becomes 14 = .ok (.if_icmp .ge 23, 3) := by decide +kernel
theorem dX12_becomes_17 : decode cX12_becomes 17 = .ok (.aload_n 0, 1) := by decide +kernel
theorem dX12_becomes_18 : decode cX12_becomes 18 = .ok (.getfield 105, 3) := by decide +kernel
theorem dX12_becomes_21 : decode cX12_becomes 21 = .ok (.iload_n 3, 1) := by decide +kernel
theorem dX12_becomes_22 : decode cX12_becomes 22 = .ok (.iconst 2, 1) := by decide +kernel
theorem dX12_becomes_23 : decode cX12_becomes 23 = .ok (.isub, 1) := by decide +kernel
theorem dX12_becomes_24 : decode cX12_becomes 24 = .ok (.aload_n 0, 1) := by decide +kernel
theorem dX12_becomes_25 : decode cX12_becomes 25 = .ok (.getfield 105, 3) := by decide +kernel
theorem dX12_becomes_28 : decode cX12_becomes 28 = .ok (.iload_n 3, 1) := by decide +kernel
theorem dX12_becomes_29 : decode cX12_becomes 29 = .ok (.iaload, 1) := by decide +kernel
theorem dX12_becomes_30 : decode cX12_becomes 30 = .ok (.iastore, 1) := by decide +kernel
theorem dX12_becomes_31 : decode cX12_becomes 31 = .ok (.iinc 3 1, 3) := by decide +kernel
theorem dX12_becomes_34 : decode cX12_becomes 34 = .ok (.goto (-23), 3) := by decide +kernel
theorem dX12_becomes_37 : decode cX12_becomes 37 = .ok (.aload_n 0, 1) := by decide +kernel
theorem dX12_becomes_38 : decode cX12_becomes 38 = .ok (.dup, 1) := by decide +kernel
theorem dX12_becomes_39 : decode cX12_becomes 39 = .ok (.getfield 355, 3) := by decide +kernel
theorem dX12_becomes_42 : decode cX12_becomes 42 = .ok (.iconst 1, 1) := by decide +kernel
theorem dX12_becomes_43 : decode cX12_becomes 43 = .ok (.isub, 1) := by decide +kernel
theorem dX12_becomes_44 : decode cX12_becomes 44 = .ok (.putfield 355, 3) := by decide +kernel
theorem dX12_becomes_47 : decode cX12_becomes 47 = .ok (.aload_n 0, 1) := by decide +kernel
theorem dX12_becomes_48 : decode cX12_becomes 48 = .ok (.getfield 102, 3) := by decide +kernel
theorem dX12_becomes_51 : decode cX12_becomes 51 = .ok (.iload_n 1, 1) := by decide +kernel
theorem dX12_becomes_52 : decode cX12_becomes 52 = .ok (.iaload, 1) := by decide +kernel
theorem dX12_becomes_53 : decode cX12_becomes 53 = .ok (.istore_n 3, 1) := by decide +kernel
theorem dX12_becomes_54 : decode cX12_becomes 54 = .ok (.aload_n 0, 1) := by decide +kernel
theorem dX12_becomes_55 : decode cX12_becomes 55 = .ok (.getfield 105, 3) := by decide +kernel
theorem dX12_becomes_58 : decode cX12_becomes 58 = .ok (.iconst 2, 1) := by decide +kernel
theorem dX12_becomes_59 : decode cX12_becomes 59 = .ok (.aload_n 0, 1) := by decide +kernel
theorem dX12_becomes_60 : decode cX12_becomes 60 = .ok (.getfield 355, 3) := by decide +kernel
theorem dX12_becomes_63 : decode cX12_becomes 63 = .ok (.imul, 1) := by decide +kernel
theorem dX12_becomes_64 : decode cX12_becomes 64 = .ok (.iload_n 1, 1) := by decide +kernel
theorem dX12_becomes_65 : decode cX12_becomes 65 = .ok (.iastore, 1) := by decide +kernel
theorem dX12_becomes_66 : decode cX12_becomes 66 = .ok (.aload_n 0, 1) := by decide +kernel
theorem dX12_becomes_67 : decode cX12_becomes 67 = .ok (.getfield 105, 3) := by decide +kernel
theorem dX12_becomes_70 : decode cX12_becomes 70 = .ok (.iconst 2, 1) := by decide +kernel
theorem dX12_becomes_71 : decode cX12_becomes 71 = .ok (.aload_n 0, 1) := by decide +kernel
theorem dX12_becomes_72 : decode cX12_becomes 72 = .ok (.getfield 355, 3) := by decide +kernel
theorem dX12_becomes_75 : decode cX12_becomes 75 = .ok (.imul, 1) := by decide +kernel
theorem dX12_becomes_76 : decode cX12_becomes 76 = .ok (.iconst 1, 1) := by decide +kernel
theorem dX12_becomes_77 : decode cX12_becomes 77 = .ok (.iadd, 1) := by decide +kernel
theorem dX12_becomes_78 : decode cX12_becomes 78 = .ok (.iload_n 3, 1) := by decide +kernel
theorem dX12_becomes_79 : decode cX12_becomes 79 = .ok (.iastore, 1) := by decide +kernel
theorem dX12_becomes_80 : decode cX12_becomes 80 = .ok (.aload_n 0, 1) := by decide +kernel
theorem dX12_becomes_81 : decode cX12_becomes 81 = .ok (.dup, 1) := by decide +kernel
theorem dX12_becomes_82 : decode cX12_becomes 82 = .ok (.getfield 355, 3) := by decide +kernel
theorem dX12_becomes_85 : decode cX12_becomes 85 = .ok (.iconst 1, 1) := by decide +kernel
theorem dX12_becomes_86 : decode cX12_becomes 86 = .ok (.iadd, 1) := by decide +kernel
theorem dX12_becomes_87 : decode cX12_becomes 87 = .ok (.putfield 355, 3) := by decide +kernel
theorem dX12_becomes_90 : decode cX12_becomes 90 = .ok (.aload_n 0, 1) := by decide +kernel
theorem dX12_becomes_91 : decode cX12_becomes 91 = .ok (.getfield 102, 3) := by decide +kernel
theorem dX12_becomes_94 : decode cX12_becomes 94 = .ok (.iload_n 1, 1) := by decide +kernel
theorem dX12_becomes_95 : decode cX12_becomes 95 = .ok (.iload_n 2, 1) := by decide +kernel
theorem dX12_becomes_96 : decode cX12_becomes 96 = .ok (.iastore, 1) := by decide +kernel
theorem dX12_becomes_97 : decode cX12_becomes 97 = .ok (.iload_n 3, 1) := by decide +kernel
theorem dX12_becomes_98 : decode cX12_becomes 98 = .ok (.ireturn, 1) := by decide +kernel
theorem dX12_undo_0 : decode cX12_undo 0 = .ok (.aload_n 0, 1) := by decide +kernel
theorem dX12_undo_1 : decode cX12_undo 1 = .ok (.iconst 0, 1) := by decide +kernel
theorem dX12_undo_2 : decode cX12_undo 2 = .ok (.putfield 159, 3) := by decide +kernel
theorem dX12_undo_5 : decode cX12_undo 5 = .ok (.aload_n 0, 1) := by decide +kernel
theorem dX12_undo_6 : decode cX12_undo 6 = .ok (.getfield 355, 3) := by decide +kernel
theorem dX12_undo_9 : decode cX12_undo 9 = .ok (.ifCond .ne 5, 3) := by decide +kernel
theorem dX12_undo_12 : decode cX12_undo 12 = .ok (.iconst (-1), 1) := by decide +kernel
theorem dX12_undo_13 : decode cX12_undo 13 = .ok (.ireturn, 1) := by decide +kernel
theorem dX12_undo_14 : decode cX12_undo 14 = .ok (.aload_n 0, 1) := by decide +kernel
theorem dX12_undo_15 : decode cX12_undo 15 = .ok (.dup, 1) := by decide +kernel
theorem dX12_undo_16 : decode cX12_undo 16 = .ok (.getfield 355, 3) := by decide +kernel
theorem dX12_undo_19 : decode cX12_undo 19 = .ok (.iconst 1, 1) := by decide +kernel
theorem dX12_undo_20 : decode cX12_undo 20 = .ok (.isub, 1) := by decide +kernel
theorem dX12_undo_21 : decode cX12_undo 21 = .ok (.putfield 355, 3) := by decide +kernel
theorem dX12_undo_24 : decode cX12_undo 24 = .ok (.aload_n 0, 1) := by decide +kernel
theorem dX12_undo_25 : decode cX12_undo 25 = .ok (.getfield 102, 3) := by decide +kernel
theorem dX12_undo_28 : decode cX12_undo 28 = .ok (.aload_n 0, 1) := by decide +kernel
theorem dX12_undo_29 : decode cX12_undo 29 = .ok (.getfield 105, 3) := by decide +kernel
theorem dX12_undo_32 : decode cX12_undo 32 = .ok (.iconst 2, 1) := by decide +kernel
theorem dX12_undo_33 : decode cX12_undo 33 = .ok (.aload_n 0, 1) := by decide +kernel
theorem dX12_undo_34 : decode cX12_undo 34 = .ok (.getfield 355, 3) := by decide +kernel
theorem dX12_undo_37 : decode cX12_undo 37 = .ok (.imul, 1) := by decide +kernel
theorem dX12_undo_38 : decode cX12_undo 38 = .ok (.iaload, 1) := by decide +kernel
theorem dX12_undo_39 : decode cX12_undo 39 = .ok (.aload_n 0, 1) := by decide +kernel
theorem dX12_undo_40 : decode cX12_undo 40 = .ok (.getfield 105, 3) := by decide +kernel
theorem dX12_undo_43 : decode cX12_undo 43 = .ok (.iconst 2, 1) := by decide +kernel
theorem dX12_undo_44 : decode cX12_undo 44 = .ok (.aload_n 0, 1) := by decide +kernel
theorem dX12_undo_45 : decode cX12_undo 45 = .ok (.getfield 355, 3) := by decide +kernel
theorem dX12_undo_48 : decode cX12_undo 48 = .ok (.imul, 1) := by decide +kernel
theorem dX12_undo_49 : decode cX12_undo 49 = .ok (.iconst 1, 1) := by decide +kernel
theorem dX12_undo_50 : decode cX12_undo 50 = .ok (.iadd, 1) := by decide +kernel
theorem dX12_undo_51 : decode cX12_undo 51 = .ok (.iaload, 1) := by decide +kernel
theorem dX12_undo_52 : decode cX12_undo 52 = .ok (.iastore, 1) := by decide +kernel
theorem dX12_undo_53 : decode cX12_undo 53 = .ok (.aload_n 0, 1) := by decide +kernel
theorem dX12_undo_54 : decode cX12_undo 54 = .ok (.getfield 355, 3) := by decide +kernel
theorem dX12_undo_57 : decode cX12_undo 57 = .ok (.ireturn, 1) := by decide +kernel
theorem dX12_works_0 : decode cX12_works 0 = .ok (.iload_n 0, 1) := by decide +kernel
theorem dX12_works_1 : decode cX12_works 1 = .ok (.tableswitch 105 4 10 #[43, 57, 71, 82, 93, 97, 101], 43) := by decide +kernel
theorem dX12_works_44 : decode cX12_works 44 = .ok (.iload_n 1, 1) := by decide +kernel
theorem dX12_works_45 : decode cX12_works 45 = .ok (.ifCond .eq 11, 3) := by decide +kernel
theorem dX12_works_48 : decode cX12_works 48 = .ok (.iload_n 2, 1) := by decide +kernel
theorem dX12_works_49 : decode cX12_works 49 = .ok (.ifCond .eq 7, 3) := by decide +kernel
theorem dX12_works_52 : decode cX12_works 52 = .ok (.iconst 1, 1) := by decide +kernel
theorem dX12_works_53 : decode cX12_works 53 = .ok (.goto 4, 3) := by decide +kernel
theorem dX12_works_56 : decode cX12_works 56 = .ok (.iconst 0, 1) := by decide +kernel
theorem dX12_works_57 : decode cX12_works 57 = .ok (.ireturn, 1) := by decide +kernel
theorem dX12_works_58 : decode cX12_works 58 = .ok (.iload_n 1, 1) := by decide +kernel
theorem dX12_works_59 : decode cX12_works 59 = .ok (.ifCond .ne 7, 3) := by decide +kernel
theorem dX12_works_62 : decode cX12_works 62 = .ok (.iload_n 2, 1) := by decide +kernel
theorem dX12_works_63 : decode cX12_works 63 = .ok (.ifCond .eq 7, 3) := by decide +kernel
theorem dX12_works_66 : decode cX12_works 66 = .ok (.iconst 1, 1) := by decide +kernel
theorem dX12_works_67 : decode cX12_works 67 = .ok (.goto 4, 3) := by decide +kernel
theorem dX12_works_70 : decode cX12_works 70 = .ok (.iconst 0, 1) := by decide +kernel
theorem dX12_works_71 : decode cX12_works 71 = .ok (.ireturn, 1) := by decide +kernel
theorem dX12_works_72 : decode cX12_works 72 = .ok (.iload_n 1, 1) := by decide +kernel
theorem dX12_works_73 : decode cX12_works 73 = .ok (.iload_n 2, 1) := by decide +kernel
theorem dX12_works_74 : decode cX12_works 74 = .ok (.if_icmp .ge 7, 3) := by decide +kernel
theorem dX12_works_77 : decode cX12_works 77 = .ok (.iconst 1, 1) := by decide +kernel
theorem dX12_works_78 : decode cX12_works 78 = .ok (.goto 4, 3) := by decide +kernel
theorem dX12_works_81 : decode cX12_works 81 = .ok (.iconst 0, 1) := by decide +kernel
theorem dX12_works_82 : decode cX12_works 82 = .ok (.ireturn, 1) := by decide +kernel
theorem dX12_works_83 : decode cX12_works 83 = .ok (.iload_n 1, 1) := by decide +kernel
theorem dX12_works_84 : decode cX12_works 84 = .ok (.iload_n 2, 1) := by decide +kernel
theorem dX12_works_85 : decode cX12_works 85 = .ok (.if_icmp .ne 7, 3) := by decide +kernel
theorem dX12_works_88 : decode cX12_works 88 = .ok (.iconst 1, 1) := by decide +kernel
theorem dX12_works_89 : decode cX12_works 89 = .ok (.goto 4, 3) := by decide +kernel
theorem dX12_works_92 : decode cX12_works 92 = .ok (.iconst 0, 1) := by decide +kernel
theorem dX12_works_93 : decode cX12_works 93 = .ok (.ireturn, 1) := by decide +kernel
theorem dX12_works_94 : decode cX12_works 94 = .ok (.iload_n 1, 1) := by decide +kernel
theorem dX12_works_95 : decode cX12_works 95 = .ok (.iload_n 2, 1) := by decide +kernel
theorem dX12_works_96 : decode cX12_works 96 = .ok (.iadd, 1) := by decide +kernel
theorem dX12_works_97 : decode cX12_works 97 = .ok (.ireturn, 1) := by decide +kernel
theorem dX12_works_98 : decode cX12_works 98 = .ok (.iload_n 1, 1) := by decide +kernel
theorem dX12_works_99 : decode cX12_works 99 = .ok (.iload_n 2, 1) := by decide +kernel
theorem dX12_works_100 : decode cX12_works 100 = .ok (.isub, 1) := by decide +kernel
theorem dX12_works_101 : decode cX12_works 101 = .ok (.ireturn, 1) := by decide +kernel
theorem dX12_works_102 : decode cX12_works 102 = .ok (.iload_n 1, 1) := by decide +kernel
theorem dX12_works_103 : decode cX12_works 103 = .ok (.iload_n 2, 1) := by decide +kernel
theorem dX12_works_104 : decode cX12_works 104 = .ok (.imul, 1) := by decide +kernel
theorem dX12_works_105 : decode cX12_works 105 = .ok (.ireturn, 1) := by decide +kernel
theorem dX12_works_106 : decode cX12_works 106 = .ok (.iload_n 2, 1) := by decide +kernel
theorem dX12_works_107 : decode cX12_works 107 = .ok (.ifCond .ne 7, 3) := by decide +kernel
theorem dX12_works_110 : decode cX12_works 110 = .ok (.iconst 0, 1) := by decide +kernel
theorem dX12_works_111 : decode cX12_works 111 = .ok (.goto 6, 3) := by decide +kernel
theorem dX12_works_114 : decode cX12_works 114 = .ok (.iload_n 1, 1) := by decide +kernel
theorem dX12_works_115 : decode cX12_works 115 = .ok (.iload_n 2, 1) := by decide +kernel
theorem dX12_works_116 : decode cX12_works 116 = .ok (.idiv, 1) := by decide +kernel
theorem dX12_works_117 : decode cX12_works 117 = .ok (.ireturn, 1) := by decide +kernel
theorem dX12_reckons_0 : decode cX12_reckons 0 = .ok (.iconst 0, 1) := by decide +kernel
theorem dX12_reckons_1 : decode cX12_reckons 1 = .ok (.istore_n 2, 1) := by decide +kernel
theorem dX12_reckons_2 : decode cX12_reckons 2 = .ok (.iload_n 1, 1) := by decide +kernel
theorem dX12_reckons_3 : decode cX12_reckons 3 = .ok (.istore_n 3, 1) := by decide +kernel
theorem dX12_reckons_4 : decode cX12_reckons 4 = .ok (.aload_n 0, 1) := by decide +kernel
theorem dX12_reckons_5 : decode cX12_reckons 5 = .ok (.getfield 44, 3) := by decide +kernel
theorem dX12_reckons_8 : decode cX12_reckons 8 = .ok (.iload_n 3, 1) := by decide +kernel
theorem dX12_reckons_9 : decode cX12_reckons 9 = .ok (.iaload, 1) := by decide +kernel
theorem dX12_reckons_10 : decode cX12_reckons 10 = .ok (.ifCond .eq 133, 3) := by decide +kernel
theorem dX12_reckons_13 : decode cX12_reckons 13 = .ok (.aload_n 0, 1) := by decide +kernel
theorem dX12_reckons_14 : decode cX12_reckons 14 = .ok (.getfield 44, 3) := by decide +kernel
theorem dX12_reckons_17 : decode cX12_reckons 17 = .ok (.iload_n 3, 1) := by decide +kernel
theorem dX12_reckons_18 : decode cX12_reckons 18 = .ok (.iaload, 1) := by decide +kernel
theorem dX12_reckons_19 : decode cX12_reckons 19 = .ok (.istore 4, 2) := by decide +kernel
theorem dX12_reckons_21 : decode cX12_reckons 21 = .ok (.iinc 3 1, 3) := by decide +kernel
theorem dX12_reckons_24 : decode cX12_reckons 24 = .ok (.iload 4, 2) := by decide +kernel
theorem dX12_reckons_26 : decode cX12_reckons 26 = .ok (.iconst 1, 1) := by decide +kernel
theorem dX12_reckons_27 : decode cX12_reckons 27 = .ok (.if_icmp .eq 9, 3) := by decide +kernel
theorem dX12_reckons_30 : decode cX12_reckons 30 = .ok (.iload 4, 2) := by decide +kernel
theorem dX12_reckons_32 : decode cX12_reckons 32 = .ok (.iconst 2, 1) := by decide +kernel
theorem dX12_reckons_33 : decode cX12_reckons 33 = .ok (.if_icmp .ne 44, 3) := by decide +kernel
theorem dX12_reckons_36 : decode cX12_reckons 36 = .ok (.aload_n 0, 1) := by decide +kernel
theorem dX12_reckons_37 : decode cX12_reckons 37 = .ok (.getfield 111, 3) := by decide +kernel
theorem dX12_reckons_40 : decode cX12_reckons 40 = .ok (.iload_n 2, 1) := by decide +kernel
theorem dX12_reckons_41 : decode cX12_reckons 41 = .ok (.iload 4, 2) := by decide +kernel
theorem dX12_reckons_43 : decode cX12_reckons 43 = .ok (.iconst 1, 1) := by decide +kernel
theorem dX12_reckons_44 : decode cX12_reckons 44 = .ok (.if_icmp .ne 12, 3) := by decide +kernel
theorem dX12_reckons_47 : decode cX12_reckons 47 = .ok (.aload_n 0, 1) := by decide +kernel
theorem dX12_reckons_48 : decode cX12_reckons 48 = .ok (.getfield 44, 3) := by decide +kernel
theorem dX12_reckons_51 : decode cX12_reckons 51 = .ok (.iload_n 3, 1) := by decide +kernel
theorem dX12_reckons_52 : decode cX12_reckons 52 = .ok (.iaload, 1) := by decide +kernel
theorem dX12_reckons_53 : decode cX12_reckons 53 = .ok (.goto 14, 3) := by decide +kernel
theorem dX12_reckons_56 : decode cX12_reckons 56 = .ok (.aload_n 0, 1) := by decide +kernel
theorem dX12_reckons_57 : decode cX12_reckons 57 = .ok (.getfield 108, 3) := by decide +kernel
theorem dX12_reckons_60 : decode cX12_reckons 60 = .ok (.aload_n 0, 1) := by decide +kernel
theorem dX12_reckons_61 : decode cX12_reckons 61 = .ok (.getfield 44, 3) := by decide +kernel
theorem dX12_reckons_64 : decode cX12_reckons 64 = .ok (.iload_n 3, 1) := by decide +kernel
theorem dX12_reckons_65 : decode cX12_reckons 65 = .ok (.iaload, 1) := by decide +kernel
theorem dX12_reckons_66 : decode cX12_reckons 66 = .ok (.iaload, 1) := by decide +kernel
theorem dX12_reckons_67 : decode cX12_reckons 67 = .ok (.iastore, 1) := by decide +kernel
theorem dX12_reckons_68 : decode cX12_reckons 68 = .ok (.iinc 3 1, 3) := by decide +kernel
theorem dX12_reckons_71 : decode cX12_reckons 71 = .ok (.iinc 2 1, 3) := by decide +kernel
theorem dX12_reckons_74 : decode cX12_reckons 74 = .ok (.goto 66, 3) := by decide +kernel
theorem dX12_reckons_77 : decode cX12_reckons 77 = .ok (.iload 4, 2) := by decide +kernel
theorem dX12_reckons_79 : decode cX12_reckons 79 = .ok (.iconst 3, 1) := by decide +kernel
theorem dX12_reckons_80 : decode cX12_reckons 80 = .ok (.if_icmp .ne 30, 3) := by decide +kernel
theorem dX12_reckons_83 : decode cX12_reckons 83 = .ok (.aload_n 0, 1) := by decide +kernel
theorem dX12_reckons_84 : decode cX12_reckons 84 = .ok (.getfield 111, 3) := by decide +kernel
theorem dX12_reckons_87 : decode cX12_reckons 87 = .ok (.iload_n 2, 1) := by decide +kernel
theorem dX12_reckons_88 : decode cX12_reckons 88 = .ok (.iconst 1, 1) := by decide +kernel
theorem dX12_reckons_89 : decode cX12_reckons 89 = .ok (.isub, 1) := by decide +kernel
theorem dX12_reckons_90 : decode cX12_reckons 90 = .ok (.aload_n 0, 1) := by decide +kernel
theorem dX12_reckons_91 : decode cX12_reckons 91 = .ok (.getfield 111, 3) := by decide +kernel
theorem dX12_reckons_94 : decode cX12_reckons 94 = .ok (.iload_n 2, 1) := by decide +kernel
theorem dX12_reckons_95 : decode cX12_reckons 95 = .ok (.iconst 1, 1) := by decide +kernel
theorem dX12_reckons_96 : decode cX12_reckons 96 = .ok (.isub, 1) := by decide +kernel
theorem dX12_reckons_97 : decode cX12_reckons 97 = .ok (.iaload, 1) := by decide +kernel
theorem dX12_reckons_98 : decode cX12_reckons 98 = .ok (.ifCond .ne 7, 3) := by decide +kernel
theorem dX12_reckons_101 : decode cX12_reckons 101 = .ok (.iconst 1, 1) := by decide +kernel
theorem dX12_reckons_102 : decode cX12_reckons 102 = .ok (.goto 4, 3) := by decide +kernel
theorem dX12_reckons_105 : decode cX12_reckons 105 = .ok (.iconst 0, 1) := by decide +kernel
theorem dX12_reckons_106 : decode cX12_reckons 106 = .ok (.iastore, 1) := by decide +kernel
theorem dX12_reckons_107 : decode cX12_reckons 107 = .ok (.goto 33, 3) := by decide +kernel
theorem dX12_reckons_110 : decode cX12_reckons 110 = .ok (.iinc 2 (-1), 3) := by decide +kernel
theorem dX12_reckons_113 : decode cX12_reckons 113 = .ok (.aload_n 0, 1) := by decide +kernel
theorem dX12_reckons_114 : decode cX12_reckons 114 = .ok (.getfield 111, 3) := by decide +kernel
theorem dX12_reckons_117 : decode cX12_reckons 117 = .ok (.iload_n 2, 1) := by decide +kernel
theorem dX12_reckons_118 : decode cX12_reckons 118 = .ok (.iconst 1, 1) := by decide +kernel
theorem dX12_reckons_119 : decode cX12_reckons 119 = .ok (.isub, 1) := by decide +kernel
theorem dX12_reckons_120 : decode cX12_reckons 120 = .ok (.iload 4, 2) := by decide +kernel
theorem dX12_reckons_122 : decode cX12_reckons 122 = .ok (.aload_n 0, 1) := by decide +kernel
theorem dX12_reckons_123 : decode cX12_reckons 123 = .ok (.getfield 111, 3) := by decide +kernel
theorem dX12_reckons_126 : decode cX12_reckons 126 = .ok (.iload_n 2, 1) := by decide +kernel
theorem dX12_reckons_127 : decode cX12_reckons 127 = .ok (.iconst 1, 1) := by decide +kernel
theorem dX12_reckons_128 : decode cX12_reckons 128 = .ok (.isub, 1) := by decide +kernel
theorem dX12_reckons_129 : decode cX12_reckons 129 = .ok (.iaload, 1) := by decide +kernel
theorem dX12_reckons_130 : decode cX12_reckons 130 = .ok (.aload_n 0, 1) := by decide +kernel
theorem dX12_reckons_131 : decode cX12_reckons 131 = .ok (.getfield 111, 3) := by decide +kernel
theorem dX12_reckons_134 : decode cX12_reckons 134 = .ok (.iload_n 2, 1) := by decide +kernel
theorem dX12_reckons_135 : decode cX12_reckons 135 = .ok (.iaload, 1) := by decide +kernel
theorem dX12_reckons_136 : decode cX12_reckons 136 = .ok (.invokestatic 365, 3) := by decide +kernel
theorem dX12_reckons_139 : decode cX12_reckons 139 = .ok (.iastore, 1) := by decide +kernel
theorem dX12_reckons_140 : decode cX12_reckons 140 = .ok (.goto (-136), 3) := by decide +kernel
theorem dX12_reckons_143 : decode cX12_reckons 143 = .ok (.aload_n 0, 1) := by decide +kernel
theorem dX12_reckons_144 : decode cX12_reckons 144 = .ok (.getfield 111, 3) := by decide +kernel
theorem dX12_reckons_147 : decode cX12_reckons 147 = .ok (.iconst 0, 1) := by decide +kernel
theorem dX12_reckons_148 : decode cX12_reckons 148 = .ok (.iaload, 1) := by decide +kernel
theorem dX12_reckons_149 : decode cX12_reckons 149 = .ok (.ireturn, 1) := by decide +kernel
theorem dX12_cells_0 : decode cX12_cells 0 = .ok (.aload_n 0, 1) := by decide +kernel
theorem dX12_cells_1 : decode cX12_cells 1 = .ok (.getfield 7, 3) := by decide +kernel
theorem dX12_cells_4 : decode cX12_cells 4 = .ok (.aload_n 0, 1) := by decide +kernel
theorem dX12_cells_5 : decode cX12_cells 5 = .ok (.getfield 13, 3) := by decide +kernel
theorem dX12_cells_8 : decode cX12_cells 8 = .ok (.imul, 1) := by decide +kernel
theorem dX12_cells_9 : decode cX12_cells 9 = .ok (.ireturn, 1) := by decide +kernel
theorem dX12_isLitIn_0 : decode cX12_isLitIn 0 = .ok (.iload_n 2, 1) := by decide +kernel
theorem dX12_isLitIn_1 : decode cX12_isLitIn 1 = .ok (.bipush 24, 2) := by decide +kernel
theorem dX12_isLitIn_3 : decode cX12_isLitIn 3 = .ok (.irem, 1) := by decide +kernel
theorem dX12_isLitIn_4 : decode cX12_isLitIn 4 = .ok (.bipush 12, 2) := by decide +kernel
theorem dX12_isLitIn_6 : decode cX12_isLitIn 6 = .ok (.if_icmp .lt 22, 3) := by decide +kernel
theorem dX12_isLitIn_9 : decode cX12_isLitIn 9 = .ok (.aload_n 0, 1) := by decide +kernel
theorem dX12_isLitIn_10 : decode cX12_isLitIn 10 = .ok (.getfield 117, 3) := by decide +kernel
theorem dX12_isLitIn_13 : decode cX12_isLitIn 13 = .ok (.sipush 240, 3) := by decide +kernel
theorem dX12_isLitIn_16 : decode cX12_isLitIn 16 = .ok (.iload_n 1, 1) := by decide +kernel
theorem dX12_isLitIn_17 : decode cX12_isLitIn 17 = .ok (.imul, 1) := by decide +kernel
theorem dX12_isLitIn_18 : decode cX12_isLitIn 18 = .ok (.iload_n 2, 1) := by decide +kernel
theorem dX12_isLitIn_19 : decode cX12_isLitIn 19 = .ok (.iadd, 1) := by decide +kernel
theorem dX12_isLitIn_20 : decode cX12_isLitIn 20 = .ok (.iaload, 1) := by decide +kernel
theorem dX12_isLitIn_21 : decode cX12_isLitIn 21 = .ok (.ifCond .le 7, 3) := by decide +kernel
theorem dX12_isLitIn_24 : decode cX12_isLitIn 24 = .ok (.iconst 1, 1) := by decide +kernel
theorem dX12_isLitIn_25 : decode cX12_isLitIn 25 = .ok (.goto 4, 3) := by decide +kernel
theorem dX12_isLitIn_28 : decode cX12_isLitIn 28 = .ok (.iconst 0, 1) := by decide +kernel
theorem dX12_isLitIn_29 : decode cX12_isLitIn 29 = .ok (.ireturn, 1) := by decide +kernel
theorem dX12_leads_0 : decode cX12_leads 0 = .ok (.iload_n 1, 1) := by decide +kernel
theorem dX12_leads_1 : decode cX12_leads 1 = .ok (.aload_n 0, 1) := by decide +kernel
theorem dX12_leads_2 : decode cX12_leads 2 = .ok (.getfield 7, 3) := by decide +kernel
theorem dX12_leads_5 : decode cX12_leads 5 = .ok (.irem, 1) := by decide +kernel
theorem dX12_leads_6 : decode cX12_leads 6 = .ok (.iload_n 2, 1) := by decide +kernel
theorem dX12_leads_7 : decode cX12_leads 7 = .ok (.iconst 1, 1) := by decide +kernel
theorem dX12_leads_8 : decode cX12_leads 8 = .ok (.if_icmp .ne 7, 3) := by decide +kernel
theorem dX12_leads_11 : decode cX12_leads 11 = .ok (.iconst 1, 1) := by decide +kernel
theorem dX12_leads_12 : decode cX12_leads 12 = .ok (.goto 13, 3) := by decide +kernel
theorem dX12_leads_15 : decode cX12_leads 15 = .ok (.iload_n 2, 1) := by decide +kernel
theorem dX12_leads_16 : decode cX12_leads 16 = .ok (.iconst 3, 1) := by decide +kernel
theorem dX12_leads_17 : decode cX12_leads 17 = .ok (.if_icmp .ne 7, 3) := by decide +kernel
theorem dX12_leads_20 : decode cX12_leads 20 = .ok (.iconst (-1), 1) := by decide +kernel
theorem dX12_leads_21 : decode cX12_leads 21 = .ok (.goto 4, 3) := by decide +kernel
theorem dX12_leads_24 : decode cX12_leads 24 = .ok (.iconst 0, 1) := by decide +kernel
theorem dX12_leads_25 : decode cX12_leads 25 = .ok (.iadd, 1) := by decide +kernel
theorem dX12_leads_26 : decode cX12_leads 26 = .ok (.istore_n 3, 1) := by decide +kernel
theorem dX12_leads_27 : decode cX12_leads 27 = .ok (.iload_n 1, 1) := by decide +kernel
theorem dX12_leads_28 : decode cX12_leads 28 = .ok (.aload_n 0, 1) := by decide +kernel
theorem dX12_leads_29 : decode cX12_leads 29 = .ok (.getfield 7, 3) := by decide +kernel
theorem dX12_leads_32 : decode cX12_leads 32 = .ok (.idiv, 1) := by decide +kernel
theorem dX12_leads_33 : decode cX12_leads 33 = .ok (.iload_n 2, 1) := by decide +kernel
theorem dX12_leads_34 : decode cX12_leads 34 = .ok (.iconst 2, 1) := by decide +kernel
theorem dX12_leads_35 : decode cX12_leads 35 = .ok (.if_icmp .ne 7, 3) := by decide +kernel
theorem dX12_leads_38 : decode cX12_leads 38 = .ok (.iconst 1, 1) := by decide +kernel
theorem dX12_leads_39 : decode cX12_leads 39 = .ok (.goto 12, 3) := by decide +kernel
theorem dX12_leads_42 : decode cX12_leads 42 = .ok (.iload_n 2, 1) := by decide +kernel
theorem dX12_leads_43 : decode cX12_leads 43 = .ok (.ifCond .ne 7, 3) := by decide +kernel
theorem dX12_leads_46 : decode cX12_leads 46 = .ok (.iconst (-1), 1) := by decide +kernel
theorem dX12_leads_47 : decode cX12_leads 47 = .ok (.goto 4, 3) := by decide +kernel
theorem dX12_leads_50 : decode cX12_leads 50 = .ok (.iconst 0, 1) := by decide +kernel
theorem dX12_leads_51 : decode cX12_leads 51 = .ok (.iadd, 1) := by decide +kernel
theorem dX12_leads_52 : decode cX12_leads 52 = .ok (.istore 4, 2) := by decide +kernel
theorem dX12_leads_54 : decode cX12_leads 54 = .ok (.iload_n 3, 1) := by decide +kernel
theorem dX12_leads_55 : decode cX12_leads 55 = .ok (.ifCond .lt 25, 3) := by decide +kernel
theorem dX12_leads_58 : decode cX12_leads 58 = .ok (.iload 4, 2) := by decide +kernel
theorem dX12_leads_60 : decode cX12_leads 60 = .ok (.ifCond .lt 20, 3) := by decide +kernel
theorem dX12_leads_63 : decode cX12_leads 63 = .ok (.iload_n 3, 1) := by decide +kernel
theorem dX12_leads_64 : decode cX12_leads 64 = .ok (.aload_n 0, 1) := by decide +kernel
theorem dX12_leads_65 : decode cX12_leads 65 = .ok (.getfield 7, 3) := by decide +kernel
theorem dX12_leads_68 : decode cX12_leads 68 = .ok (.if_icmp .ge 12, 3) := by decide +kernel
theorem dX12_leads_71 : decode cX12_leads 71 = .ok (.iload 4, 2) := by decide +kernel
theorem dX12_leads_73 : decode cX12_leads 73 = .ok (.aload_n 0, 1) := by decide +kernel
theorem dX12_leads_74 : decode cX12_leads 74 = .ok (.getfield 13, 3) := by decide +kernel
theorem dX12_leads_77 : decode cX12_leads 77 = .ok (.if_icmp .lt 7, 3) := by decide +kernel
theorem dX12_leads_80 : decode cX12_leads 80 = .ok (.iconst (-1), 1) := by decide +kernel
theorem dX12_leads_81 : decode cX12_leads 81 = .ok (.goto 12, 3) := by decide +kernel
theorem dX12_leads_84 : decode cX12_leads 84 = .ok (.aload_n 0, 1) := by decide +kernel
theorem dX12_leads_85 : decode cX12_leads 85 = .ok (.getfield 7, 3) := by decide +kernel
theorem dX12_leads_88 : decode cX12_leads 88 = .ok (.iload 4, 2) := by decide +kernel
theorem dX12_leads_90 : decode cX12_leads 90 = .ok (.imul, 1) := by decide +kernel
theorem dX12_leads_91 : decode cX12_leads 91 = .ok (.iload_n 3, 1) := by decide +kernel
theorem dX12_leads_92 : decode cX12_leads 92 = .ok (.iadd, 1) := by decide +kernel
theorem dX12_leads_93 : decode cX12_leads 93 = .ok (.ireturn, 1) := by decide +kernel
theorem dX12_yieldsBy_0 : decode cX12_yieldsBy 0 = .ok (.iload_n 3, 1) := by decide +kernel
theorem dX12_yieldsBy_1 : decode cX12_yieldsBy 1 = .ok (.iconst (-1), 1) := by decide +kernel
theorem dX12_yieldsBy_2 : decode cX12_yieldsBy 2 = .ok (.if_icmp .ne 10, 3) := by decide +kernel
theorem dX12_yieldsBy_5 : decode cX12_yieldsBy 5 = .ok (.aload_n 0, 1) := by decide +kernel
theorem dX12_yieldsBy_6 : decode cX12_yieldsBy 6 = .ok (.getfield 23, 3) := by decide +kernel
theorem dX12_yieldsBy_9 : decode cX12_yieldsBy 9 = .ok (.iload_n 1, 1) := by decide +kernel
theorem dX12_yieldsBy_10 : decode cX12_yieldsBy 10 = .ok (.iaload, 1) := by decide +kernel
theorem dX12_yieldsBy_11 : decode cX12_yieldsBy 11 = .ok (.ireturn, 1) := by decide +kernel
theorem dX12_yieldsBy_12 : decode cX12_yieldsBy 12 = .ok (.aload_n 0, 1) := by decide +kernel
theorem dX12_yieldsBy_13 : decode cX12_yieldsBy 13 = .ok (.getfield 108, 3) := by decide +kernel
theorem dX12_yieldsBy_16 : decode cX12_yieldsBy 16 = .ok (.iconst 0, 1) := by decide +kernel
theorem dX12_yieldsBy_17 : decode cX12_yieldsBy 17 = .ok (.aload_n 0, 1) := by decide +kernel
theorem dX12_yieldsBy_18 : decode cX12_yieldsBy 18 = .ok (.getfield 23, 3) := by decide +kernel
theorem dX12_yieldsBy_21 : decode cX12_yieldsBy 21 = .ok (.iload_n 1, 1) := by decide +kernel
theorem dX12_yieldsBy_22 : decode cX12_yieldsBy 22 = .ok (.iaload, 1) := by decide +kernel
theorem dX12_yieldsBy_23 : decode cX12_yieldsBy 23 = .ok (.iastore, 1) := by decide +kernel
theorem dX12_yieldsBy_24 : decode cX12_yieldsBy 24 = .ok (.aload_n 0, 1) := by decide +kernel
theorem dX12_yieldsBy_25 : decode cX12_yieldsBy 25 = .ok (.getfield 108, 3) := by decide +kernel
theorem dX12_yieldsBy_28 : decode cX12_yieldsBy 28 = .ok (.iconst 1, 1) := by decide +kernel
theorem dX12_yieldsBy_29 : decode cX12_yieldsBy 29 = .ok (.aload_n 0, 1) := by decide +kernel
theorem dX12_yieldsBy_30 : decode cX12_yieldsBy 30 = .ok (.getfield 117, 3) := by decide +kernel
theorem dX12_yieldsBy_33 : decode cX12_yieldsBy 33 = .ok (.sipush 240, 3) := by decide +kernel
theorem dX12_yieldsBy_36 : decode cX12_yieldsBy 36 = .ok (.iload_n 1, 1) := by decide +kernel
theorem dX12_yieldsBy_37 : decode cX12_yieldsBy 37 = .ok (.imul, 1) := by decide +kernel
theorem dX12_yieldsBy_38 : decode cX12_yieldsBy 38 = .ok (.iload_n 2, 1) := by decide +kernel
theorem dX12_yieldsBy_39 : decode cX12_yieldsBy 39 = .ok (.iadd, 1) := by decide +kernel
theorem dX12_yieldsBy_40 : decode cX12_yieldsBy 40 = .ok (.iaload, 1) := by decide +kernel
theorem dX12_yieldsBy_41 : decode cX12_yieldsBy 41 = .ok (.iastore, 1) := by decide +kernel
theorem dX12_yieldsBy_42 : decode cX12_yieldsBy 42 = .ok (.aload_n 0, 1) := by decide +kernel
theorem dX12_yieldsBy_43 : decode cX12_yieldsBy 43 = .ok (.getfield 108, 3) := by decide +kernel
theorem dX12_yieldsBy_46 : decode cX12_yieldsBy 46 = .ok (.iconst 2, 1) := by decide +kernel
theorem dX12_yieldsBy_47 : decode cX12_yieldsBy 47 = .ok (.iload_n 1, 1) := by decide +kernel
theorem dX12_yieldsBy_48 : decode cX12_yieldsBy 48 = .ok (.iastore, 1) := by decide +kernel
theorem dX12_yieldsBy_49 : decode cX12_yieldsBy 49 = .ok (.aload_n 0, 1) := by decide +kernel
theorem dX12_yieldsBy_50 : decode cX12_yieldsBy 50 = .ok (.getfield 108, 3) := by decide +kernel
theorem dX12_yieldsBy_53 : decode cX12_yieldsBy 53 = .ok (.iconst 3, 1) := by decide +kernel
theorem dX12_yieldsBy_54 : decode cX12_yieldsBy 54 = .ok (.iload_n 2, 1) := by decide +kernel
theorem dX12_yieldsBy_55 : decode cX12_yieldsBy 55 = .ok (.bipush 24, 2) := by decide +kernel
theorem dX12_yieldsBy_57 : decode cX12_yieldsBy 57 = .ok (.irem, 1) := by decide +kernel
theorem dX12_yieldsBy_58 : decode cX12_yieldsBy 58 = .ok (.iastore, 1) := by decide +kernel
theorem dX12_yieldsBy_59 : decode cX12_yieldsBy 59 = .ok (.aload_n 0, 1) := by decide +kernel
theorem dX12_yieldsBy_60 : decode cX12_yieldsBy 60 = .ok (.getfield 108, 3) := by decide +kernel
theorem dX12_yieldsBy_63 : decode cX12_yieldsBy 63 = .ok (.iconst 4, 1) := by decide +kernel
theorem dX12_yieldsBy_64 : decode cX12_yieldsBy 64 = .ok (.aload_n 0, 1) := by decide +kernel
theorem dX12_yieldsBy_65 : decode cX12_yieldsBy 65 = .ok (.getfield 20, 3) := by decide +kernel
theorem dX12_yieldsBy_68 : decode cX12_yieldsBy 68 = .ok (.iload_n 1, 1) := by decide +kernel
theorem dX12_yieldsBy_69 : decode cX12_yieldsBy 69 = .ok (.iaload, 1) := by decide +kernel
theorem dX12_yieldsBy_70 : decode cX12_yieldsBy 70 = .ok (.iastore, 1) := by decide +kernel
theorem dX12_yieldsBy_71 : decode cX12_yieldsBy 71 = .ok (.aload_n 0, 1) := by decide +kernel
theorem dX12_yieldsBy_72 : decode cX12_yieldsBy 72 = .ok (.getfield 108, 3) := by decide +kernel
theorem dX12_yieldsBy_75 : decode cX12_yieldsBy 75 = .ok (.iconst 5, 1) := by decide +kernel
theorem dX12_yieldsBy_76 : decode cX12_yieldsBy 76 = .ok (.aload_n 0, 1) := by decide +kernel
theorem dX12_yieldsBy_77 : decode cX12_yieldsBy 77 = .ok (.iload_n 1, 1) := by decide +kernel
theorem dX12_yieldsBy_78 : decode cX12_yieldsBy 78 = .ok (.iload_n 2, 1) := by decide +kernel
theorem dX12_yieldsBy_79 : decode cX12_yieldsBy 79 = .ok (.invokevirtual 369, 3) := by decide +kernel
theorem dX12_yieldsBy_82 : decode cX12_yieldsBy 82 = .ok (.ifCond .eq 7, 3) := by decide +kernel
theorem dX12_yieldsBy_85 : decode cX12_yieldsBy 85 = .ok (.iconst 1, 1) := by decide +kernel
theorem dX12_yieldsBy_86 : decode cX12_yieldsBy 86 = .ok (.goto 4, 3) := by decide +kernel
theorem dX12_yieldsBy_89 : decode cX12_yieldsBy 89 = .ok (.iconst 0, 1) := by decide +kernel
theorem dX12_yieldsBy_90 : decode cX12_yieldsBy 90 = .ok (.iastore, 1) := by decide +kernel
theorem dX12_yieldsBy_91 : decode cX12_yieldsBy 91 = .ok (.aload_n 0, 1) := by decide +kernel
theorem dX12_yieldsBy_92 : decode cX12_yieldsBy 92 = .ok (.aload_n 0, 1) := by decide +kernel
theorem dX12_yieldsBy_93 : decode cX12_yieldsBy 93 = .ok (.getfield 41, 3) := by decide +kernel
theorem dX12_yieldsBy_96 : decode cX12_yieldsBy 96 = .ok (.iload_n 3, 1) := by decide +kernel
theorem dX12_yieldsBy_97 : decode cX12_yieldsBy 97 = .ok (.iaload, 1) := by decide +kernel
theorem dX12_yieldsBy_98 : decode cX12_yieldsBy 98 = .ok (.invokevirtual 372, 3) := by decide +kernel
theorem dX12_yieldsBy_101 : decode cX12_yieldsBy 101 = .ok (.ireturn, 1) := by decide +kernel
theorem dX12_steps_0 : decode cX12_steps 0 = .ok (.aload_n 0, 1) := by decide +kernel
theorem dX12_steps_1 : decode cX12_steps 1 = .ok (.aload_n 0, 1) := by decide +kernel
theorem dX12_steps_2 : decode cX12_steps 2 = .ok (.getfield 120, 3) := by decide +kernel
theorem dX12_steps_5 : decode cX12_steps 5 = .ok (.iload_n 1, 1) := by decide +kernel
theorem dX12_steps_6 : decode cX12_steps 6 = .ok (.iaload, 1) := by decide +kernel
theorem dX12_steps_7 : decode cX12_steps 7 = .ok (.aload_n 0, 1) := by decide +kernel
theorem dX12_steps_8 : decode cX12_steps 8 = .ok (.getfield 29, 3) := by decide +kernel
theorem dX12_steps_11 : decode cX12_steps 11 = .ok (.bipush 12, 2) := by decide +kernel
theorem dX12_steps_13 : decode cX12_steps 13 = .ok (.iload_n 1, 1) := by decide +kernel
theorem dX12_steps_14 : decode cX12_steps 14 = .ok (.imul, 1) := by decide +kernel
theorem dX12_steps_15 : decode cX12_steps 15 = .ok (.iload_n 2, 1) := by decide +kernel
theorem dX12_steps_16 : decode cX12_steps 16 = .ok (.aload_n 0, 1) := by decide +kernel
theorem dX12_steps_17 : decode cX12_steps 17 = .ok (.getfield 26, 3) := by decide +kernel
theorem dX12_steps_20 : decode cX12_steps 20 = .ok (.iload_n 1, 1) := by decide +kernel
theorem dX12_steps_21 : decode cX12_steps 21 = .ok (.iaload, 1) := by decide +kernel
theorem dX12_steps_22 : decode cX12_steps 22 = .ok (.irem, 1) := by decide +kernel
theorem dX12_steps_23 : decode cX12_steps 23 = .ok (.iadd, 1) := by decide +kernel
theorem dX12_steps_24 : decode cX12_steps 24 = .ok (.iaload, 1) := by decide +kernel
theorem dX12_steps_25 : decode cX12_steps 25 = .ok (.invokevirtual 375, 3) := by decide +kernel
theorem dX12_steps_28 : decode cX12_steps 28 = .ok (.istore_n 3, 1) := by decide +kernel
theorem dX12_steps_29 : decode cX12_steps 29 = .ok (.iload_n 3, 1) := by decide +kernel
theorem dX12_steps_30 : decode cX12_steps 30 = .ok (.iconst (-1), 1) := by decide +kernel
theorem dX12_steps_31 : decode cX12_steps 31 = .ok (.if_icmp .eq 22, 3) := by decide +kernel
theorem dX12_steps_34 : decode cX12_steps 34 = .ok (.iload_n 3, 1) := by decide +kernel
theorem dX12_steps_35 : decode cX12_steps 35 = .ok (.aload_n 0, 1) := by decide +kernel
theorem dX12_steps_36 : decode cX12_steps 36 = .ok (.getfield 120, 3) := by decide +kernel
theorem dX12_steps_39 : decode cX12_steps 39 = .ok (.iload_n 1, 1) := by decide +kernel
theorem dX12_steps_40 : decode cX12_steps 40 = .ok (.iaload, 1) := by decide +kernel
theorem dX12_steps_41 : decode cX12_steps 41 = .ok (.if_icmp .eq 12, 3) := by decide +kernel
theorem dX12_steps_44 : decode cX12_steps 44 = .ok (.aload_n 0, 1) := by decide +kernel
theorem dX12_steps_45 : decode cX12_steps 45 = .ok (.getfield 47, 3) := by decide +kernel
theorem dX12_steps_48 : decode cX12_steps 48 = .ok (.iload_n 3, 1) := by decide +kernel
theorem dX12_steps_49 : decode cX12_steps 49 = .ok (.baload, 1) := by decide +kernel
theorem dX12_steps_50 : decode cX12_steps 50 = .ok (.ifCond .eq 4, 3) := by decide +kernel
theorem dX12_steps_53 : decode cX12_steps 53 = .ok (.return_, 1) := by decide +kernel
theorem dX12_steps_54 : decode cX12_steps 54 = .ok (.iconst 0, 1) := by decide +kernel
theorem dX12_steps_55 : decode cX12_steps 55 = .ok (.istore 4, 2) := by decide +kernel
theorem dX12_steps_57 : decode cX12_steps 57 = .ok (.iload 4, 2) := by decide +kernel
theorem dX12_steps_59 : decode cX12_steps 59 = .ok (.aload_n 0, 1) := by decide +kernel
theorem dX12_steps_60 : decode cX12_steps 60 = .ok (.getfield 339, 3) := by decide +kernel
theorem dX12_steps_63 : decode cX12_steps 63 = .ok (.if_icmp .ge 34, 3) := by decide +kernel
theorem dX12_steps_66 : decode cX12_steps 66 = .ok (.aload_n 0, 1) := by decide +kernel
theorem dX12_steps_67 : decode cX12_steps 67 = .ok (.getfield 120, 3) := by decide +kernel
theorem dX12_steps_70 : decode cX12_steps 70 = .ok (.iload 4, 2) := by decide +kernel
theorem dX12_steps_72 : decode cX12_steps 72 = .ok (.iaload, 1) := by decide +kernel
theorem dX12_steps_73 : decode cX12_steps 73 = .ok (.iload_n 3, 1) := by decide +kernel
theorem dX12_steps_74 : decode cX12_steps 74 = .ok (.if_icmp .eq 6, 3) := by decide +kernel
theorem dX12_steps_77 : decode cX12_steps 77 = .ok (.goto 14, 3) := by decide +kernel
theorem dX12_steps_80 : decode cX12_steps 80 = .ok (.aload_n 0, 1) := by decide +kernel
theorem dX12_steps_81 : decode cX12_steps 81 = .ok (.dup, 1) := by decide +kernel
theorem dX12_steps_82 : decode cX12_steps 82 = .ok (.getfield 378, 3) := by decide +kernel
theorem dX12_steps_85 : decode cX12_steps 85 = .ok (.iconst 1, 1) := by decide +kernel
theorem dX12_steps_86 : decode cX12_steps 86 = .ok (.iadd, 1) := by decide +kernel
theorem dX12_steps_87 : decode cX12_steps 87 = .ok (.putfield 378, 3) := by decide +kernel
theorem dX12_steps_90 : decode cX12_steps 90 = .ok (.return_, 1) := by decide +kernel
theorem dX12_steps_91 : decode cX12_steps 91 = .ok (.iinc 4 1, 3) := by decide +kernel
theorem dX12_steps_94 : decode cX12_steps 94 = .ok (.goto (-37), 3) := by decide +kernel
theorem dX12_steps_97 : decode cX12_steps 97 = .ok (.aload_n 0, 1) := by decide +kernel
theorem dX12_steps_98 : decode cX12_steps 98 = .ok (.getfield 120, 3) := by decide +kernel
theorem dX12_steps_101 : decode cX12_steps 101 = .ok (.iload_n 1, 1) := by decide +kernel
theorem dX12_steps_102 : decode cX12_steps 102 = .ok (.iload_n 3, 1) := by decide +kernel
theorem dX12_steps_103 : decode cX12_steps 103 = .ok (.iastore, 1) := by decide +kernel
theorem dX12_steps_104 : decode cX12_steps 104 = .ok (.return_, 1) := by decide +kernel
theorem dX12_allStep_0 : decode cX12_allStep 0 = .ok (.iconst 0, 1) := by decide +kernel
theorem dX12_allStep_1 : decode cX12_allStep 1 = .ok (.istore_n 3, 1) := by decide +kernel
theorem dX12_allStep_2 : decode cX12_allStep 2 = .ok (.iload_n 3, 1) := by decide +kernel
theorem dX12_allStep_3 : decode cX12_allStep 3 = .ok (.aload_n 0, 1) := by decide +kernel
theorem dX12_allStep_4 : decode cX12_allStep 4 = .ok (.getfield 339, 3) := by decide +kernel
theorem dX12_allStep_7 : decode cX12_allStep 7 = .ok (.if_icmp .ge 22, 3) := by decide +kernel
theorem dX12_allStep_10 : decode cX12_allStep 10 = .ok (.aload_n 0, 1) := by decide +kernel
theorem dX12_allStep_11 : decode cX12_allStep 11 = .ok (.getfield 123, 3) := by decide +kernel
theorem dX12_allStep_14 : decode cX12_allStep 14 = .ok (.iload_n 3, 1) := by decide +kernel
theorem dX12_allStep_15 : decode cX12_allStep 15 = .ok (.aload_n 0, 1) := by decide +kernel
theorem dX12_allStep_16 : decode cX12_allStep 16 = .ok (.iload_n 3, 1) := by decide +kernel
theorem dX12_allStep_17 : decode cX12_allStep 17 = .ok (.iload_n 1, 1) := by decide +kernel
theorem dX12_allStep_18 : decode cX12_allStep 18 = .ok (.iload_n 2, 1) := by decide +kernel
theorem dX12_allStep_19 : decode cX12_allStep 19 = .ok (.invokevirtual 381, 3) := by decide +kernel
theorem dX12_allStep_22 : decode cX12_allStep 22 = .ok (.iastore, 1) := by decide +kernel
theorem dX12_allStep_23 : decode cX12_allStep 23 = .ok (.iinc 3 1, 3) := by decide +kernel
theorem dX12_allStep_26 : decode cX12_allStep 26 = .ok (.goto (-24), 3) := by decide +kernel
theorem dX12_allStep_29 : decode cX12_allStep 29 = .ok (.iconst 1, 1) := by decide +kernel
theorem dX12_allStep_30 : decode cX12_allStep 30 = .ok (.aload_n 0, 1) := by decide +kernel
theorem dX12_allStep_31 : decode cX12_allStep 31 = .ok (.getfield 339, 3) := by decide +kernel
theorem dX12_allStep_34 : decode cX12_allStep 34 = .ok (.ishl, 1) := by decide +kernel
theorem dX12_allStep_35 : decode cX12_allStep 35 = .ok (.iconst 1, 1) := by decide +kernel
theorem dX12_allStep_36 : decode cX12_allStep 36 = .ok (.isub, 1) := by decide +kernel
theorem dX12_allStep_37 : decode cX12_allStep 37 = .ok (.istore_n 3, 1) := by decide +kernel
theorem dX12_allStep_38 : decode cX12_allStep 38 = .ok (.iload_n 3, 1) := by decide +kernel
theorem dX12_allStep_39 : decode cX12_allStep 39 = .ok (.ifCond .eq 80, 3) := by decide +kernel
theorem dX12_allStep_42 : decode cX12_allStep 42 = .ok (.iconst (-1), 1) := by decide +kernel
theorem dX12_allStep_43 : decode cX12_allStep 43 = .ok (.istore 4, 2) := by decide +kernel
theorem dX12_allStep_45 : decode cX12_allStep 45 = .ok (.iconst 0, 1) := by decide +kernel
theorem dX12_allStep_46 : decode cX12_allStep 46 = .ok (.istore 5, 2) := by decide +kernel
theorem dX12_allStep_48 : decode cX12_allStep 48 = .ok (.iload 5, 2) := by decide +kernel
theorem dX12_allStep_50 : decode cX12_allStep 50 = .ok (.aload_n 0, 1) := by decide +kernel
theorem dX12_allStep_51 : decode cX12_allStep 51 = .ok (.getfield 339, 3) := by decide +kernel
theorem dX12_allStep_54 : decode cX12_allStep 54 = .ok (.if_icmp .ge 46, 3) := by decide +kernel
theorem dX12_allStep_57 : decode cX12_allStep 57 = .ok (.iload_n 3, 1) := by decide +kernel
theorem dX12_allStep_58 : decode cX12_allStep 58 = .ok (.iload 5, 2) := by decide +kernel
theorem dX12_allStep_60 : decode cX12_allStep 60 = .ok (.ishr, 1) := by decide +kernel
theorem dX12_allStep_61 : decode cX12_allStep 61 = .ok (.iconst 1, 1) := by decide +kernel
theorem dX12_allStep_62 : decode cX12_allStep 62 = .ok (.iand, 1) := by decide +kernel
theorem dX12_allStep_63 : decode cX12_allStep 63 = .ok (.iconst 1, 1) := by decide +kernel
theorem dX12_allStep_64 : decode cX12_allStep 64 = .ok (.if_icmp .ne 30, 3) := by decide +kernel
theorem dX12_allStep_67 : decode cX12_allStep 67 = .ok (.iload 4, 2) := by decide +kernel
theorem dX12_allStep_69 : decode cX12_allStep 69 = .ok (.iconst (-1), 1) := by decide +kernel
theorem dX12_allStep_70 : decode cX12_allStep 70 = .ok (.if_icmp .eq 20, 3) := by decide +kernel
theorem dX12_allStep_73 : decode cX12_allStep 73 = .ok (.aload_n 0, 1) := by decide +kernel
theorem dX12_allStep_74 : decode cX12_allStep 74 = .ok (.getfield 123, 3) := by decide +kernel
theorem dX12_allStep_77 : decode cX12_allStep 77 = .ok (.iload 5, 2) := by decide +kernel
theorem dX12_allStep_79 : decode cX12_allStep 79 = .ok (.iaload, 1) := by decide +kernel
theorem dX12_allStep_80 : decode cX12_allStep 80 = .ok (.aload_n 0, 1) := by decide +kernel
theorem dX12_allStep_81 : decode cX12_allStep 81 = .ok (.getfield 123, 3) := by decide +kernel
theorem dX12_allStep_84 : decode cX12_allStep 84 = .ok (.iload 4, 2) := by decide +kernel
theorem dX12_allStep_86 : decode cX12_allStep 86 = .ok (.iaload, 1) := by decide +kernel
theorem dX12_allStep_87 : decode cX12_allStep 87 = .ok (.if_icmp .le 7, 3) := by decide +kernel
theorem dX12_allStep_90 : decode cX12_allStep 90 = .ok (.iload 5, 2) := by decide +kernel
theorem dX12_allStep_92 : decode cX12_allStep 92 = .ok (.istore 4, 2) := by decide +kernel
theorem dX12_allStep_94 : decode cX12_allStep 94 = .ok (.iinc 5 1, 3) := by decide +kernel
theorem dX12_allStep_97 : decode cX12_allStep 97 = .ok (.goto (-49), 3) := by decide +kernel
theorem dX12_allStep_100 : decode cX12_allStep 100 = .ok (.iload_n 3, 1) := by decide +kernel
theorem dX12_allStep_101 : decode cX12_allStep 101 = .ok (.iconst 1, 1) := by decide +kernel
theorem dX12_allStep_102 : decode cX12_allStep 102 = .ok (.iload 4, 2) := by decide +kernel
theorem dX12_allStep_104 : decode cX12_allStep 104 = .ok (.ishl, 1) := by decide +kernel
theorem dX12_allStep_105 : decode cX12_allStep 105 = .ok (.iconst (-1), 1) := by decide +kernel
theorem dX12_allStep_106 : decode cX12_allStep 106 = .ok (.ixor, 1) := by decide +kernel
theorem dX12_allStep_107 : decode cX12_allStep 107 = .ok (.iand, 1) := by decide +kernel
theorem dX12_allStep_108 : decode cX12_allStep 108 = .ok (.istore_n 3, 1) := by decide +kernel
theorem dX12_allStep_109 : decode cX12_allStep 109 = .ok (.aload_n 0, 1) := by decide +kernel
theorem dX12_allStep_110 : decode cX12_allStep 110 = .ok (.iload 4, 2) := by decide +kernel
theorem dX12_allStep_112 : decode cX12_allStep 112 = .ok (.iload_n 1, 1) := by decide +kernel
theorem dX12_allStep_113 : decode cX12_allStep 113 = .ok (.invokevirtual 384, 3) := by decide +kernel
theorem dX12_allStep_116 : decode cX12_allStep 116 = .ok (.goto (-78), 3) := by decide +kernel
theorem dX12_allStep_119 : decode cX12_allStep 119 = .ok (.return_, 1) := by decide +kernel
theorem dX12_sails_0 : decode cX12_sails 0 = .ok (.aload_n 0, 1) := by decide +kernel
theorem dX12_sails_1 : decode cX12_sails 1 = .ok (.iconst 0, 1) := by decide +kernel
theorem dX12_sails_2 : decode cX12_sails 2 = .ok (.putfield 378, 3) := by decide +kernel
theorem dX12_sails_5 : decode cX12_sails 5 = .ok (.iconst 0, 1) := by decide +kernel
theorem dX12_sails_6 : decode cX12_sails 6 = .ok (.istore_n 3, 1) := by decide +kernel
theorem dX12_sails_7 : decode cX12_sails 7 = .ok (.iload_n 3, 1) := by decide +kernel
theorem dX12_sails_8 : decode cX12_sails 8 = .ok (.aload_n 0, 1) := by decide +kernel
theorem dX12_sails_9 : decode cX12_sails 9 = .ok (.getfield 339, 3) := by decide +kernel
theorem dX12_sails_12 : decode cX12_sails 12 = .ok (.if_icmp .ge 42, 3) := by decide +kernel
theorem dX12_sails_15 : decode cX12_sails 15 = .ok (.aload_n 0, 1) := by decide +kernel
theorem dX12_sails_16 : decode cX12_sails 16 = .ok (.getfield 120, 3) := by decide +kernel
theorem dX12_sails_19 : decode cX12_sails 19 = .ok (.iload_n 3, 1) := by decide +kernel
theorem dX12_sails_20 : decode cX12_sails 20 = .ok (.aload_n 0, 1) := by decide +kernel
theorem dX12_sails_21 : decode cX12_sails 21 = .ok (.getfield 102, 3) := by decide +kernel
theorem dX12_sails_24 : decode cX12_sails 24 = .ok (.bipush 13, 2) := by decide +kernel
theorem dX12_sails_26 : decode cX12_sails 26 = .ok (.iload_n 3, 1) := by decide +kernel
theorem dX12_sails_27 : decode cX12_sails 27 = .ok (.iadd, 1) := by decide +kernel
theorem dX12_sails_28 : decode cX12_sails 28 = .ok (.iaload, 1) := by decide +kernel
theorem dX12_sails_29 : decode cX12_sails 29 = .ok (.iastore, 1) := by decide +kernel
theorem dX12_sails_30 : decode cX12_sails 30 = .ok (.aload_n 0, 1) := by decide +kernel
theorem dX12_sails_31 : decode cX12_sails 31 = .ok (.getfield 117, 3) := by decide +kernel
theorem dX12_sails_34 : decode cX12_sails 34 = .ok (.sipush 240, 3) := by decide +kernel
theorem dX12_sails_37 : decode cX12_sails 37 = .ok (.iload_n 3, 1) := by decide +kernel
theorem dX12_sails_38 : decode cX12_sails 38 = .ok (.imul, 1) := by decide +kernel
theorem dX12_sails_39 : decode cX12_sails 39 = .ok (.aload_n 0, 1) := by decide +kernel
theorem dX12_sails_40 : decode cX12_sails 40 = .ok (.getfield 102, 3) := by decide +kernel
theorem dX12_sails_43 : decode cX12_sails 43 = .ok (.iconst 0, 1) := by decide +kernel
theorem dX12_sails_44 : decode cX12_sails 44 = .ok (.iload_n 3, 1) := by decide +kernel
theorem dX12_sails_45 : decode cX12_sails 45 = .ok (.iadd, 1) := by decide +kernel
theorem dX12_sails_46 : decode cX12_sails 46 = .ok (.iaload, 1) := by decide +kernel
theorem dX12_sails_47 : decode cX12_sails 47 = .ok (.iastore, 1) := by decide +kernel
theorem dX12_sails_48 : decode cX12_sails 48 = .ok (.iinc 3 1, 3) := by decide +kernel
theorem dX12_sails_51 : decode cX12_sails 51 = .ok (.goto (-44), 3) := by decide +kernel
theorem dX12_sails_54 : decode cX12_sails 54 = .ok (.iconst 0, 1) := by decide +kernel
theorem dX12_sails_55 : decode cX12_sails 55 = .ok (.istore_n 3, 1) := by decide +kernel
theorem dX12_sails_56 : decode cX12_sails 56 = .ok (.iload_n 3, 1) := by decide +kernel
theorem dX12_sails_57 : decode cX12_sails 57 = .ok (.iload_n 1, 1) := by decide +kernel
theorem dX12_sails_58 : decode cX12_sails 58 = .ok (.if_icmp .ge 111, 3) := by decide +kernel
theorem dX12_sails_61 : decode cX12_sails 61 = .ok (.iconst 0, 1) := by decide +kernel
theorem dX12_sails_62 : decode cX12_sails 62 = .ok (.istore 4, 2) := by decide +kernel
theorem dX12_sails_64 : decode cX12_sails 64 = .ok (.iload 4, 2) := by decide +kernel
theorem dX12_sails_66 : decode cX12_sails 66 = .ok (.aload_n 0, 1) := by decide +kernel
theorem dX12_sails_67 : decode cX12_sails 67 = .ok (.getfield 339, 3) := by decide +kernel
theorem dX12_sails_70 : decode cX12_sails 70 = .ok (.if_icmp .ge 80, 3) := by decide +kernel
theorem dX12_sails_73 : decode cX12_sails 73 = .ok (.aload_n 0, 1) := by decide +kernel
theorem dX12_sails_74 : decode cX12_sails 74 = .ok (.getfield 114, 3) := by decide +kernel
theorem dX12_sails_77 : decode cX12_sails 77 = .ok (.sipush 240, 3) := by decide +kernel
theorem dX12_sails_80 : decode cX12_sails 80 = .ok (.iload 4, 2) := by decide +kernel
theorem dX12_sails_82 : decode cX12_sails 82 = .ok (.imul, 1) := by decide +kernel
theorem dX12_sails_83 : decode cX12_sails 83 = .ok (.iload_n 3, 1) := by decide +kernel
theorem dX12_sails_84 : decode cX12_sails 84 = .ok (.iadd, 1) := by decide +kernel
theorem dX12_sails_85 : decode cX12_sails 85 = .ok (.aload_n 0, 1) := by decide +kernel
theorem dX12_sails_86 : decode cX12_sails 86 = .ok (.getfield 120, 3) := by decide +kernel
theorem dX12_sails_89 : decode cX12_sails 89 = .ok (.iload 4, 2) := by decide +kernel
theorem dX12_sails_91 : decode cX12_sails 91 = .ok (.iaload, 1) := by decide +kernel
theorem dX12_sails_92 : decode cX12_sails 92 = .ok (.iastore, 1) := by decide +kernel
theorem dX12_sails_93 : decode cX12_sails 93 = .ok (.iload_n 3, 1) := by decide +kernel
theorem dX12_sails_94 : decode cX12_sails 94 = .ok (.iconst 1, 1) := by decide +kernel
theorem dX12_sails_95 : decode cX12_sails 95 = .ok (.iadd, 1) := by decide +kernel
theorem dX12_sails_96 : decode cX12_sails 96 = .ok (.iload_n 1, 1) := by decide +kernel
theorem dX12_sails_97 : decode cX12_sails 97 = .ok (.if_icmp .ge 47, 3) := by decide +kernel
theorem dX12_sails_100 : decode cX12_sails 100 = .ok (.aload_n 0, 1) := by decide +kernel
theorem dX12_sails_101 : decode cX12_sails 101 = .ok (.getfield 117, 3) := by decide +kernel
theorem dX12_sails_104 : decode cX12_sails 104 = .ok (.sipush 240, 3) := by decide +kernel
theorem dX12_sails_107 : decode cX12_sails 107 = .ok (.iload 4, 2) := by decide +kernel
theorem dX12_sails_109 : decode cX12_sails 109 = .ok (.imul, 1) := by decide +kernel
theorem dX12_sails_110 : decode cX12_sails 110 = .ok (.iload_n 3, 1) := by decide +kernel
theorem dX12_sails_111 : decode cX12_sails 111 = .ok (.iadd, 1) := by decide +kernel
theorem dX12_sails_112 : decode cX12_sails 112 = .ok (.iconst 1, 1) := by decide +kernel
theorem dX12_sails_113 : decode cX12_sails 113 = .ok (.iadd, 1) := by decide +kernel
theorem dX12_sails_114 : decode cX12_sails 114 = .ok (.aload_n 0, 1) := by decide +kernel
theorem dX12_sails_115 : decode cX12_sails 115 = .ok (.getfield 117, 3) := by decide +kernel
theorem dX12_sails_118 : decode cX12_sails 118 = .ok (.sipush 240, 3) := by decide +kernel
theorem dX12_sails_121 : decode cX12_sails 121 = .ok (.iload 4, 2) := by decide +kernel
theorem dX12_sails_123 : decode cX12_sails 123 = .ok (.imul, 1) := by decide +kernel
theorem dX12_sails_124 : decode cX12_sails 124 = .ok (.iload_n 3, 1) := by decide +kernel
theorem dX12_sails_125 : decode cX12_sails 125 = .ok (.iadd, 1) := by decide +kernel
theorem dX12_sails_126 : decode cX12_sails 126 = .ok (.iaload, 1) := by decide +kernel
theorem dX12_sails_127 : decode cX12_sails 127 = .ok (.aload_n 0, 1) := by decide +kernel
theorem dX12_sails_128 : decode cX12_sails 128 = .ok (.iload 4, 2) := by decide +kernel
theorem dX12_sails_130 : decode cX12_sails 130 = .ok (.iload_n 3, 1) := by decide +kernel
theorem dX12_sails_131 : decode cX12_sails 131 = .ok (.invokevirtual 369, 3) := by decide +kernel
theorem dX12_sails_134 : decode cX12_sails 134 = .ok (.ifCond .eq 7, 3) := by decide +kernel
theorem dX12_sails_137 : decode cX12_sails 137 = .ok (.iconst 1, 1) := by decide +kernel
theorem dX12_sails_138 : decode cX12_sails 138 = .ok (.goto 4, 3) := by decide +kernel
theorem dX12_sails_141 : decode cX12_sails 141 = .ok (.iconst 0, 1) := by decide +kernel
theorem dX12_sails_142 : decode cX12_sails 142 = .ok (.isub, 1) := by decide +kernel
theorem dX12_sails_143 : decode cX12_sails 143 = .ok (.iastore, 1) := by decide +kernel
theorem dX12_sails_144 : decode cX12_sails 144 = .ok (.iinc 4 1, 3) := by decide +kernel
theorem dX12_sails_147 : decode cX12_sails 147 = .ok (.goto (-83), 3) := by decide +kernel
theorem dX12_sails_150 : decode cX12_sails 150 = .ok (.iload_n 3, 1) := by decide +kernel
theorem dX12_sails_151 : decode cX12_sails 151 = .ok (.iconst 1, 1) := by decide +kernel
theorem dX12_sails_152 : decode cX12_sails 152 = .ok (.iadd, 1) := by decide +kernel
theorem dX12_sails_153 : decode cX12_sails 153 = .ok (.iload_n 1, 1) := by decide +kernel
theorem dX12_sails_154 : decode cX12_sails 154 = .ok (.if_icmp .ge 9, 3) := by decide +kernel
theorem dX12_sails_157 : decode cX12_sails 157 = .ok (.aload_n 0, 1) := by decide +kernel
theorem dX12_sails_158 : decode cX12_sails 158 = .ok (.iload_n 3, 1) := by decide +kernel
theorem dX12_sails_159 : decode cX12_sails 159 = .ok (.iload_n 2, 1) := by decide +kernel
theorem dX12_sails_160 : decode cX12_sails 160 = .ok (.invokevirtual 388, 3) := by decide +kernel
theorem dX12_sails_163 : decode cX12_sails 163 = .ok (.iinc 3 1, 3) := by decide +kernel
theorem dX12_sails_166 : decode cX12_sails 166 = .ok (.goto (-110), 3) := by decide +kernel
theorem dX12_sails_169 : decode cX12_sails 169 = .ok (.return_, 1) := by decide +kernel
theorem dX12_sailsNow_0 : decode cX12_sailsNow 0 = .ok (.aload_n 0, 1) := by decide +kernel
theorem dX12_sailsNow_1 : decode cX12_sailsNow 1 = .ok (.sipush 240, 3) := by decide +kernel
theorem dX12_sailsNow_4 : decode cX12_sailsNow 4 = .ok (.aload_n 0, 1) := by decide +kernel
theorem dX12_sailsNow_5 : decode cX12_sailsNow 5 = .ok (.getfield 102, 3) := by decide +kernel
theorem dX12_sailsNow_8 : decode cX12_sailsNow 8 = .ok (.bipush 18, 2) := by decide +kernel
theorem dX12_sailsNow_10 : decode cX12_sailsNow 10 = .ok (.iaload, 1) := by decide +kernel
theorem dX12_sailsNow_11 : decode cX12_sailsNow 11 = .ok (.invokevirtual 391, 3) := by decide +kernel
theorem dX12_sailsNow_14 : decode cX12_sailsNow 14 = .ok (.return_, 1) := by decide +kernel
theorem dX12_farOf_0 : decode cX12_farOf 0 = .ok (.iload_n 1, 1) := by decide +kernel
theorem dX12_farOf_1 : decode cX12_farOf 1 = .ok (.aload_n 0, 1) := by decide +kernel
theorem dX12_farOf_2 : decode cX12_farOf 2 = .ok (.getfield 7, 3) := by decide +kernel
theorem dX12_farOf_5 : decode cX12_farOf 5 = .ok (.irem, 1) := by decide +kernel
theorem dX12_farOf_6 : decode cX12_farOf 6 = .ok (.iload_n 2, 1) := by decide +kernel
theorem dX12_farOf_7 : decode cX12_farOf 7 = .ok (.aload_n 0, 1) := by decide +kernel
theorem dX12_farOf_8 : decode cX12_farOf 8 = .ok (.getfield 7, 3) := by decide +kernel
theorem dX12_farOf_11 : decode cX12_farOf 11 = .ok (.irem, 1) := by decide +kernel
theorem dX12_farOf_12 : decode cX12_farOf 12 = .ok (.invokestatic 394, 3) := by decide +kernel
theorem dX12_farOf_15 : decode cX12_farOf 15 = .ok (.istore_n 3, 1) := by decide +kernel
theorem dX12_farOf_16 : decode cX12_farOf 16 = .ok (.iload_n 1, 1) := by decide +kernel
theorem dX12_farOf_17 : decode cX12_farOf 17 = .ok (.aload_n 0, 1) := by decide +kernel
theorem dX12_farOf_18 : decode cX12_farOf 18 = .ok (.getfield 7, 3) := by decide +kernel
theorem dX12_farOf_21 : decode cX12_farOf 21 = .ok (.idiv, 1) := by decide +kernel
theorem dX12_farOf_22 : decode cX12_farOf 22 = .ok (.iload_n 2, 1) := by decide +kernel
theorem dX12_farOf_23 : decode cX12_farOf 23 = .ok (.aload_n 0, 1) := by decide +kernel
theorem dX12_farOf_24 : decode cX12_farOf 24 = .ok (.getfield 7, 3) := by decide +kernel
theorem dX12_farOf_27 : decode cX12_farOf 27 = .ok (.idiv, 1) := by decide +kernel
theorem dX12_farOf_28 : decode cX12_farOf 28 = .ok (.invokestatic 394, 3) := by decide +kernel
theorem dX12_farOf_31 : decode cX12_farOf 31 = .ok (.istore 4, 2) := by decide +kernel
theorem dX12_farOf_33 : decode cX12_farOf 33 = .ok (.iload_n 3, 1) := by decide +kernel
theorem dX12_farOf_34 : decode cX12_farOf 34 = .ok (.iload 4, 2) := by decide +kernel
theorem dX12_farOf_36 : decode cX12_farOf 36 = .ok (.if_icmp .le 7, 3) := by decide +kernel
theorem dX12_farOf_39 : decode cX12_farOf 39 = .ok (.iload_n 3, 1) := by decide +kernel
theorem dX12_farOf_40 : decode cX12_farOf 40 = .ok (.goto 5, 3) := by decide +kernel
theorem dX12_farOf_43 : decode cX12_farOf 43 = .ok (.iload 4, 2) := by decide +kernel
theorem dX12_farOf_45 : decode cX12_farOf 45 = .ok (.ireturn, 1) := by decide +kernel
theorem dX12_isHidden_0 : decode cX12_isHidden 0 = .ok (.iload_n 2, 1) := by decide +kernel
theorem dX12_isHidden_1 : decode cX12_isHidden 1 = .ok (.aload_n 0, 1) := by decide +kernel
theorem dX12_isHidden_2 : decode cX12_isHidden 2 = .ok (.getfield 7, 3) := by decide +kernel
theorem dX12_isHidden_5 : decode cX12_isHidden 5 = .ok (.irem, 1) := by decide +kernel
theorem dX12_isHidden_6 : decode cX12_isHidden 6 = .ok (.iload_n 1, 1) := by decide +kernel
theorem dX12_isHidden_7 : decode cX12_isHidden 7 = .ok (.aload_n 0, 1) := by decide +kernel
theorem dX12_isHidden_8 : decode cX12_isHidden 8 = .ok (.getfield 7, 3) := by decide +kernel
theorem dX12_isHidden_11 : decode cX12_isHidden 11 = .ok (.irem, 1) := by decide +kernel
theorem dX12_isHidden_12 : decode cX12_isHidden 12 = .ok (.isub, 1) := by decide +kernel
theorem dX12_isHidden_13 : decode cX12_isHidden 13 = .ok (.istore_n 3, 1) := by decide +kernel
theorem dX12_isHidden_14 : decode cX12_isHidden 14 = .ok (.iload_n 2, 1) := by decide +kernel
theorem dX12_isHidden_15 : decode cX12_isHidden 15 = .ok (.aload_n 0, 1) := by decide +kernel
theorem dX12_isHidden_16 : decode cX12_isHidden 16 = .ok (.getfield 7, 3) := by decide +kernel
theorem dX12_isHidden_19 : decode cX12_isHidden 19 = .ok (.idiv, 1) := by decide +kernel
theorem dX12_isHidden_20 : decode cX12_isHidden 20 = .ok (.iload_n 1, 1) := by decide +kernel
theorem dX12_isHidden_21 : decode cX12_isHidden 21 = .ok (.aload_n 0, 1) := by decide +kernel
theorem dX12_isHidden_22 : decode cX12_isHidden 22 = .ok (.getfield 7, 3) := by decide +kernel
theorem dX12_isHidden_25 : decode cX12_isHidden 25 = .ok (.idiv, 1) := by decide +kernel
theorem dX12_isHidden_26 : decode cX12_isHidden 26 = .ok (.isub, 1) := by decide +kernel
theorem dX12_isHidden_27 : decode cX12_isHidden 27 = .ok (.istore 4, 2) := by decide +kernel
theorem dX12_isHidden_29 : decode cX12_isHidden 29 = .ok (.iconst 0, 1) := by decide +kernel
theorem dX12_isHidden_30 : decode cX12_isHidden 30 = .ok (.istore 5, 2) := by decide +kernel
theorem dX12_isHidden_32 : decode cX12_isHidden 32 = .ok (.iload 5, 2) := by decide +kernel
theorem dX12_isHidden_34 : decode cX12_isHidden 34 = .ok (.aload_n 0, 1) := by decide +kernel
theorem dX12_isHidden_35 : decode cX12_isHidden 35 = .ok (.getfield 336, 3) := by decide +kernel
theorem dX12_isHidden_38 : decode cX12_isHidden 38 = .ok (.if_icmp .ge 121, 3) := by decide +kernel
theorem dX12_isHidden_41 : decode cX12_isHidden 41 = .ok (.aload_n 0, 1) := by decide +kernel
theorem dX12_isHidden_42 : decode cX12_isHidden 42 = .ok (.getfield 16, 3) := by decide +kernel
theorem dX12_isHidden_45 : decode cX12_isHidden 45 = .ok (.iload 5, 2) := by decide +kernel
theorem dX12_isHidden_47 : decode cX12_isHidden 47 = .ok (.iaload, 1) := by decide +kernel
theorem dX12_isHidden_48 : decode cX12_isHidden 48 = .ok (.aload_n 0, 1) := by decide +kernel
theorem dX12_isHidden_49 : decode cX12_isHidden 49 = .ok (.getfield 7, 3) := by decide +kernel
theorem dX12_isHidden_52 : decode cX12_isHidden 52 = .ok (.irem, 1) := by decide +kernel
theorem dX12_isHidden_53 : decode cX12_isHidden 53 = .ok (.iload_n 1, 1) := by decide +kernel
theorem dX12_isHidden_54 : decode cX12_isHidden 54 = .ok (.aload_n 0, 1) := by decide +kernel
theorem dX12_isHidden_55 : decode cX12_isHidden 55 = .ok (.getfield 7, 3) := by decide +kernel
theorem dX12_isHidden_58 : decode cX12_isHidden 58 = .ok (.irem, 1) := by decide +kernel
theorem dX12_isHidden_59 : decode cX12_isHidden 59 = .ok (.isub, 1) := by decide +kernel
theorem dX12_isHidden_60 : decode cX12_isHidden 60 = .ok (.istore 6, 2) := by decide +kernel
theorem dX12_isHidden_62 : decode cX12_isHidden 62 = .ok (.aload_n 0, 1) := by decide +kernel
theorem dX12_isHidden_63 : decode cX12_isHidden 63 = .ok (.getfield 16, 3) := by decide +kernel
theorem dX12_isHidden_66 : decode cX12_isHidden 66 = .ok (.iload 5, 2) := by decide +kernel
theorem dX12_isHidden_68 : decode cX12_isHidden 68 = .ok (.iaload, 1) := by decide +kernel
theorem dX12_isHidden_69 : decode cX12_isHidden 69 = .ok (.aload_n 0, 1) := by decide +kernel
theorem dX12_isHidden_70 : decode cX12_isHidden 70 = .ok (.getfield 7, 3) := by decide +kernel
theorem dX12_isHidden_73 : decode cX12_isHidden 73 = .ok (.idiv, 1) := by decide +kernel
theorem dX12_isHidden_74 : decode cX12_isHidden 74 = .ok (.iload_n 1, 1) := by decide +kernel
theorem dX12_isHidden_75 : decode cX12_isHidden 75 = .ok (.aload_n 0, 1) := by decide +kernel
theorem dX12_isHidden_76 : decode cX12_isHidden 76 = .ok (.getfield 7, 3) := by decide +kernel
theorem dX12_isHidden_79 : decode cX12_isHidden 79 = .ok (.idiv, 1) := by decide +kernel
theorem dX12_isHidden_80 : decode cX12_isHidden 80 = .ok (.isub, 1) := by decide +kernel
theorem dX12_isHidden_81 : decode cX12_isHidden 81 = .ok (.istore 7, 2) := by decide +kernel
theorem dX12_isHidden_83 : decode cX12_isHidden 83 = .ok (.iload 6, 2) := by decide +kernel
theorem dX12_isHidden_85 : decode cX12_isHidden 85 = .ok (.iload_n 3, 1) := by decide +kernel
theorem dX12_isHidden_86 : decode cX12_isHidden 86 = .ok (.imul, 1) := by decide +kernel
theorem dX12_isHidden_87 : decode cX12_isHidden 87 = .ok (.ifCond .lt 44, 3) := by decide +kernel
theorem dX12_isHidden_90 : decode cX12_isHidden 90 = .ok (.iload 7, 2) := by decide +kernel
theorem dX12_isHidden_92 : decode cX12_isHidden 92 = .ok (.iload 4, 2) := by decide +kernel
theorem dX12_isHidden_94 : decode cX12_isHidden 94 = .ok (.imul, 1) := by decide +kernel
theorem dX12_isHidden_95 : decode cX12_isHidden 95 = .ok (.ifCond .lt 36, 3) := by decide +kernel
theorem dX12_isHidden_98 : decode cX12_isHidden 98 = .ok (.iload 6, 2) := by decide +kernel
theorem dX12_isHidden_100 : decode cX12_isHidden 100 = .ok (.iconst 0, 1) := by decide +kernel
theorem dX12_isHidden_101 : decode cX12_isHidden 101 = .ok (.invokestatic 394, 3) := by decide +kernel
theorem dX12_isHidden_104 : decode cX12_isHidden 104 = .ok (.iload_n 3, 1) := by decide +kernel
theorem dX12_isHidden_105 : decode cX12_isHidden 105 = .ok (.iconst 0, 1) := by decide +kernel
theorem dX12_isHidden_106 : decode cX12_isHidden 106 = .ok (.invokestatic 394, 3) := by decide +kernel
theorem dX12_isHidden_109 : decode cX12_isHidden 109 = .ok (.if_icmp .gt 22, 3) := by decide +kernel
theorem dX12_isHidden_112 : decode cX12_isHidden 112 = .ok (.iload 7, 2) := by decide +kernel
theorem dX12_isHidden_114 : decode cX12_isHidden 114 = .ok (.iconst 0, 1) := by decide +kernel
theorem dX12_isHidden_115 : decode cX12_isHidden 115 = .ok (.invokestatic 394, 3) := by decide +kernel
theorem dX12_isHidden_118 : decode cX12_isHidden 118 = .ok (.iload 4, 2) := by decide +kernel
theorem dX12_isHidden_120 : decode cX12_isHidden 120 = .ok (.iconst 0, 1) := by decide +kernel
theorem dX12_isHidden_121 : decode cX12_isHidden 121 = .ok (.invokestatic 394, 3) := by decide +kernel
theorem dX12_isHidden_124 : decode cX12_isHidden 124 = .ok (.if_icmp .gt 7, 3) := by decide +kernel
theorem dX12_isHidden_127 : decode cX12_isHidden 127 = .ok (.iconst 1, 1) := by decide +kernel
theorem dX12_isHidden_128 : decode cX12_isHidden 128 = .ok (.goto 4, 3) := by decide +kernel
theorem dX12_isHidden_131 : decode cX12_isHidden 131 = .ok (.iconst 0, 1) := by decide +kernel
theorem dX12_isHidden_132 : decode cX12_isHidden 132 = .ok (.istore 8, 2) := by decide +kernel
theorem dX12_isHidden_134 : decode cX12_isHidden 134 = .ok (.iload 8, 2) := by decide +kernel
theorem dX12_isHidden_136 : decode cX12_isHidden 136 = .ok (.ifCond .eq 17, 3) := by decide +kernel
theorem dX12_isHidden_139 : decode cX12_isHidden 139 = .ok (.iload 6, 2) := by decide +kernel
theorem dX12_isHidden_141 : decode cX12_isHidden 141 = .ok (.iload 4, 2) := by decide +kernel
theorem dX12_isHidden_143 : decode cX12_isHidden 143 = .ok (.imul, 1) := by decide +kernel
theorem dX12_isHidden_144 : decode cX12_isHidden 144 = .ok (.iload 7, 2) := by decide +kernel
theorem dX12_isHidden_146 : decode cX12_isHidden 146 = .ok (.iload_n 3, 1) := by decide +kernel
theorem dX12_isHidden_147 : decode cX12_isHidden 147 = .ok (.imul, 1) := by decide +kernel
theorem dX12_isHidden_148 : decode cX12_isHidden 148 = .ok (.if_icmp .ne 5, 3) := by decide +kernel
theorem dX12_isHidden_151 : decode cX12_isHidden 151 = .ok (.iconst 1, 1) := by decide +kernel
theorem dX12_isHidden_152 : decode cX12_isHidden 152 = .ok (.ireturn, 1) := by decide +kernel
theorem dX12_isHidden_153 : decode cX12_isHidden 153 = .ok (.iinc 5 1, 3) := by decide +kernel
theorem dX12_isHidden_156 : decode cX12_isHidden 156 = .ok (.goto (-124), 3) := by decide +kernel
theorem dX12_isHidden_159 : decode cX12_isHidden 159 = .ok (.iconst 0, 1) := by decide +kernel
theorem dX12_isHidden_160 : decode cX12_isHidden 160 = .ok (.ireturn, 1) := by decide +kernel
theorem dX12_fogIn_0 : decode cX12_fogIn 0 = .ok (.aload_n 0, 1) := by decide +kernel
theorem dX12_fogIn_1 : decode cX12_fogIn 1 = .ok (.getfield 345, 3) := by decide +kernel
theorem dX12_fogIn_4 : decode cX12_fogIn 4 = .ok (.ifCond .ne 7, 3) := by decide +kernel
theorem dX12_fogIn_7 : decode cX12_fogIn 7 = .ok (.iconst 0, 1) := by decide +kernel
theorem dX12_fogIn_8 : decode cX12_fogIn 8 = .ok (.goto 14, 3) := by decide +kernel
theorem dX12_fogIn_11 : decode cX12_fogIn 11 = .ok (.aload_n 0, 1) := by decide +kernel
theorem dX12_fogIn_12 : decode cX12_fogIn 12 = .ok (.getfield 38, 3) := by decide +kernel
theorem dX12_fogIn_15 : decode cX12_fogIn 15 = .ok (.iload_n 1, 1) := by decide +kernel
theorem dX12_fogIn_16 : decode cX12_fogIn 16 = .ok (.aload_n 0, 1) := by decide +kernel
theorem dX12_fogIn_17 : decode cX12_fogIn 17 = .ok (.getfield 345, 3) := by decide +kernel
theorem dX12_fogIn_20 : decode cX12_fogIn 20 = .ok (.irem, 1) := by decide +kernel
theorem dX12_fogIn_21 : decode cX12_fogIn 21 = .ok (.iaload, 1) := by decide +kernel
theorem dX12_fogIn_22 : decode cX12_fogIn 22 = .ok (.ireturn, 1) := by decide +kernel
theorem dX12_isInSight_0 : decode cX12_isInSight 0 = .ok (.aload_n 0, 1) := by decide +kernel
theorem dX12_isInSight_1 : decode cX12_isInSight 1 = .ok (.getfield 114, 3) := by decide +kernel
theorem dX12_isInSight_4 : decode cX12_isInSight 4 = .ok (.sipush 240, 3) := by decide +kernel
theorem dX12_isInSight_7 : decode cX12_isInSight 7 = .ok (.iload_n 1, 1) := by decide +kernel
theorem dX12_isInSight_8 : decode cX12_isInSight 8 = .ok (.imul, 1) := by decide +kernel
theorem dX12_isInSight_9 : decode cX12_isInSight 9 = .ok (.iload_n 2, 1) := by decide +kernel
theorem dX12_isInSight_10 : decode cX12_isInSight 10 = .ok (.iadd, 1) := by decide +kernel
theorem dX12_isInSight_11 : decode cX12_isInSight 11 = .ok (.iaload, 1) := by decide +kernel
theorem dX12_isInSight_12 : decode cX12_isInSight 12 = .ok (.istore 5, 2) := by decide +kernel
theorem dX12_isInSight_14 : decode cX12_isInSight 14 = .ok (.aload_n 0, 1) := by decide +kernel
theorem dX12_isInSight_15 : decode cX12_isInSight 15 = .ok (.iload 5, 2) := by decide +kernel
theorem dX12_isInSight_17 : decode cX12_isInSight 17 = .ok (.iload_n 3, 1) := by decide +kernel
theorem dX12_isInSight_18 : decode cX12_isInSight 18 = .ok (.invokevirtual 397, 3) := by decide +kernel
theorem dX12_isInSight_21 : decode cX12_isInSight 21 = .ok (.aload_n 0, 1) := by decide +kernel
theorem dX12_isInSight_22 : decode cX12_isInSight 22 = .ok (.getfield 20, 3) := by decide +kernel
theorem dX12_isInSight_25 : decode cX12_isInSight 25 = .ok (.iload_n 1, 1) := by decide +kernel
theorem dX12_isInSight_26 : decode cX12_isInSight 26 = .ok (.iaload, 1) := by decide +kernel
theorem dX12_isInSight_27 : decode cX12_isInSight 27 = .ok (.iload 4, 2) := by decide +kernel
theorem dX12_isInSight_29 : decode cX12_isInSight 29 = .ok (.isub, 1) := by decide +kernel
theorem dX12_isInSight_30 : decode cX12_isInSight 30 = .ok (.if_icmp .gt 17, 3) := by decide +kernel
theorem dX12_isInSight_33 : decode cX12_isInSight 33 = .ok (.aload_n 0, 1) := by decide +kernel
theorem dX12_isInSight_34 : decode cX12_isInSight 34 = .ok (.iload_n 3, 1) := by decide +kernel
theorem dX12_isInSight_35 : decode cX12_isInSight 35 = .ok (.iload 5, 2) := by decide +kernel
theorem dX12_isInSight_37 : decode cX12_isInSight 37 = .ok (.invokevirtual 400, 3) := by decide +kernel
theorem dX12_isInSight_40 : decode cX12_isInSight 40 = .ok (.ifCond .ne 7, 3) := by decide +kernel
theorem dX12_isInSight_43 : decode cX12_isInSight 43 = .ok (.iconst 1, 1) := by decide +kernel
theorem dX12_isInSight_44 : decode cX12_isInSight 44 = .ok (.goto 4, 3) := by decide +kernel
theorem dX12_isInSight_47 : decode cX12_isInSight 47 = .ok (.iconst 0, 1) := by decide +kernel
theorem dX12_isInSight_48 : decode cX12_isInSight 48 = .ok (.ireturn, 1) := by decide +kernel
theorem dX12_seenFrom_0 : decode cX12_seenFrom 0 = .ok (.iconst 0, 1) := by decide +kernel
theorem dX12_seenFrom_1 : decode cX12_seenFrom 1 = .ok (.istore 4, 2) := by decide +kernel
theorem dX12_seenFrom_3 : decode cX12_seenFrom 3 = .ok (.iconst 0, 1) := by decide +kernel
theorem dX12_seenFrom_4 : decode cX12_seenFrom 4 = .ok (.istore 5, 2) := by decide +kernel
theorem dX12_seenFrom_6 : decode cX12_seenFrom 6 = .ok (.iload 5, 2) := by decide +kernel
theorem dX12_seenFrom_8 : decode cX12_seenFrom 8 = .ok (.aload_n 0, 1) := by decide +kernel
theorem dX12_seenFrom_9 : decode cX12_seenFrom 9 = .ok (.getfield 339, 3) := by decide +kernel
theorem dX12_seenFrom_12 : decode cX12_seenFrom 12 = .ok (.if_icmp .ge 44, 3) := by decide +kernel
theorem dX12_seenFrom_15 : decode cX12_seenFrom 15 = .ok (.iload 4, 2) := by decide +kernel
theorem dX12_seenFrom_17 : decode cX12_seenFrom 17 = .ok (.aload_n 0, 1) := by decide +kernel
theorem dX12_seenFrom_18 : decode cX12_seenFrom 18 = .ok (.iload 5, 2) := by decide +kernel
theorem dX12_seenFrom_20 : decode cX12_seenFrom 20 = .ok (.iload_n 2, 1) := by decide +kernel
theorem dX12_seenFrom_21 : decode cX12_seenFrom 21 = .ok (.invokevirtual 369, 3) := by decide +kernel
theorem dX12_seenFrom_24 : decode cX12_seenFrom 24 = .ok (.ifCond .eq 22, 3) := by decide +kernel
theorem dX12_seenFrom_27 : decode cX12_seenFrom 27 = .ok (.aload_n 0, 1) := by decide +kernel
theorem dX12_seenFrom_28 : decode cX12_seenFrom 28 = .ok (.iload 5, 2) := by decide +kernel
theorem dX12_seenFrom_30 : decode cX12_seenFrom 30 = .ok (.iload_n 2, 1) := by decide +kernel
theorem dX12_seenFrom_31 : decode cX12_seenFrom 31 = .ok (.iload_n 1, 1) := by decide +kernel
theorem dX12_seenFrom_32 : decode cX12_seenFrom 32 = .ok (.iload_n 3, 1) := by decide +kernel
theorem dX12_seenFrom_33 : decode cX12_seenFrom 33 = .ok (.invokevirtual 403, 3) := by decide +kernel
theorem dX12_seenFrom_36 : decode cX12_seenFrom 36 = .ok (.ifCond .eq 10, 3) := by decide +kernel
theorem dX12_seenFrom_39 : decode cX12_seenFrom 39 = .ok (.iconst 1, 1) := by decide +kernel
theorem dX12_seenFrom_40 : decode cX12_seenFrom 40 = .ok (.iload 5, 2) := by decide +kernel
theorem dX12_seenFrom_42 : decode cX12_seenFrom 42 = .ok (.ishl, 1) := by decide +kernel
theorem dX12_seenFrom_43 : decode cX12_seenFrom 43 = .ok (.goto 4, 3) := by decide +kernel
theorem dX12_seenFrom_46 : decode cX12_seenFrom 46 = .ok (.iconst 0, 1) := by decide +kernel
theorem dX12_seenFrom_47 : decode cX12_seenFrom 47 = .ok (.ior, 1) := by decide +kernel
theorem dX12_seenFrom_48 : decode cX12_seenFrom 48 = .ok (.istore 4, 2) := by decide +kernel
theorem dX12_seenFrom_50 : decode cX12_seenFrom 50 = .ok (.iinc 5 1, 3) := by decide +kernel
theorem dX12_seenFrom_53 : decode cX12_seenFrom 53 = .ok (.goto (-47), 3) := by decide +kernel
theorem dX12_seenFrom_56 : decode cX12_seenFrom 56 = .ok (.iload 4, 2) := by decide +kernel
theorem dX12_seenFrom_58 : decode cX12_seenFrom 58 = .ok (.ireturn, 1) := by decide +kernel
theorem dX12_seenNow_0 : decode cX12_seenNow 0 = .ok (.aload_n 0, 1) := by decide +kernel
theorem dX12_seenNow_1 : decode cX12_seenNow 1 = .ok (.aload_n 0, 1) := by decide +kernel
theorem dX12_seenNow_2 : decode cX12_seenNow 2 = .ok (.getfield 102, 3) := by decide +kernel
theorem dX12_seenNow_5 : decode cX12_seenNow 5 = .ok (.iconst 5, 1) := by decide +kernel
theorem dX12_seenNow_6 : decode cX12_seenNow 6 = .ok (.iload_n 1, 1) := by decide +kernel
theorem dX12_seenNow_7 : decode cX12_seenNow 7 = .ok (.iadd, 1) := by decide +kernel
theorem dX12_seenNow_8 : decode cX12_seenNow 8 = .ok (.iaload, 1) := by decide +kernel
theorem dX12_seenNow_9 : decode cX12_seenNow 9 = .ok (.iload_n 2, 1) := by decide +kernel
theorem dX12_seenNow_10 : decode cX12_seenNow 10 = .ok (.aload_n 0, 1) := by decide +kernel
theorem dX12_seenNow_11 : decode cX12_seenNow 11 = .ok (.iload_n 2, 1) := by decide +kernel
theorem dX12_seenNow_12 : decode cX12_seenNow 12 = .ok (.bipush 24, 2) := by decide +kernel
theorem dX12_seenNow_14 : decode cX12_seenNow 14 = .ok (.idiv, 1) := by decide +kernel
theorem dX12_seenNow_15 : decode cX12_seenNow 15 = .ok (.invokevirtual 407, 3) := by decide +kernel
theorem dX12_seenNow_18 : decode cX12_seenNow 18 = .ok (.invokevirtual 410, 3) := by decide +kernel
theorem dX12_seenNow_21 : decode cX12_seenNow 21 = .ok (.ireturn, 1) := by decide +kernel
theorem dX12_watchFrom_0 : decode cX12_watchFrom 0 = .ok (.iconst 0, 1) := by decide +kernel
theorem dX12_watchFrom_1 : decode cX12_watchFrom 1 = .ok (.istore 5, 2) := by decide +kernel
theorem dX12_watchFrom_3 : decode cX12_watchFrom 3 = .ok (.bipush 24, 2) := by decide +kernel
theorem dX12_watchFrom_5 : decode cX12_watchFrom 5 = .ok (.iload_n 2, 1) := by decide +kernel
theorem dX12_watchFrom_6 : decode cX12_watchFrom 6 = .ok (.imul, 1) := by decide +kernel
theorem dX12_watchFrom_7 : decode cX12_watchFrom 7 = .ok (.istore 6, 2) := by decide +kernel
theorem dX12_watchFrom_9 : decode cX12_watchFrom 9 = .ok (.iload 6, 2) := by decide +kernel
theorem dX12_watchFrom_11 : decode cX12_watchFrom 11 = .ok (.bipush 24, 2) := by decide +kernel
theorem dX12_watchFrom_13 : decode cX12_watchFrom 13 = .ok (.iload_n 2, 1) := by decide +kernel
theorem dX12_watchFrom_14 : decode cX12_watchFrom 14 = .ok (.imul, 1) := by decide +kernel
theorem dX12_watchFrom_15 : decode cX12_watchFrom 15 = .ok (.bipush 24, 2) := by decide +kernel
theorem dX12_watchFrom_17 : decode cX12_watchFrom 17 = .ok (.iadd, 1) := by decide +kernel
theorem dX12_watchFrom_18 : decode cX12_watchFrom 18 = .ok (.if_icmp .ge 33, 3) := by decide +kernel
theorem dX12_watchFrom_21 : decode cX12_watchFrom 21 = .ok (.iload 5, 2) := by decide +kernel
theorem dX12_watchFrom_23 : decode cX12_watchFrom 23 = .ok (.aload_n 0, 1) := by decide +kernel
theorem dX12_watchFrom_24 : decode cX12_watchFrom 24 = .ok (.iload_n 1, 1) := by decide +kernel
theorem dX12_watchFrom_25 : decode cX12_watchFrom 25 = .ok (.iload 6, 2) := by decide +kernel
theorem dX12_watchFrom_27 : decode cX12_watchFrom 27 = .ok (.iload_n 3, 1) := by decide +kernel
theorem dX12_watchFrom_28 : decode cX12_watchFrom 28 = .ok (.invokevirtual 410, 3) := by decide +kernel
theorem dX12_watchFrom_31 : decode cX12_watchFrom 31 = .ok (.iload 4, 2) := by decide +kernel
theorem dX12_watchFrom_33 : decode cX12_watchFrom 33 = .ok (.iand, 1) := by decide +kernel
theorem dX12_watchFrom_34 : decode cX12_watchFrom 34 = .ok (.ifCond .eq 7, 3) := by decide +kernel
theorem dX12_watchFrom_37 : decode cX12_watchFrom 37 = .ok (.iconst 1, 1) := by decide +kernel
theorem dX12_watchFrom_38 : decode cX12_watchFrom 38 = .ok (.goto 4, 3) := by decide +kernel
theorem dX12_watchFrom_41 : decode cX12_watchFrom 41 = .ok (.iconst 0, 1) := by decide +kernel
theorem dX12_watchFrom_42 : decode cX12_watchFrom 42 = .ok (.iadd, 1) := by decide +kernel
theorem dX12_watchFrom_43 : decode cX12_watchFrom 43 = .ok (.istore 5, 2) := by decide +kernel
theorem dX12_watchFrom_45 : decode cX12_watchFrom 45 = .ok (.iinc 6 1, 3) := by decide +kernel
theorem dX12_watchFrom_48 : decode cX12_watchFrom 48 = .ok (.goto (-39), 3) := by decide +kernel
theorem dX12_watchFrom_51 : decode cX12_watchFrom 51 = .ok (.iload 5, 2) := by decide +kernel
theorem dX12_watchFrom_53 : decode cX12_watchFrom 53 = .ok (.ireturn, 1) := by decide +kernel
theorem dX12_watchOf_0 : decode cX12_watchOf 0 = .ok (.aload_n 0, 1) := by decide +kernel
theorem dX12_watchOf_1 : decode cX12_watchOf 1 = .ok (.aload_n 0, 1) := by decide +kernel
theorem dX12_watchOf_2 : decode cX12_watchOf 2 = .ok (.getfield 102, 3) := by decide +kernel
theorem dX12_watchOf_5 : decode cX12_watchOf 5 = .ok (.iconst 5, 1) := by decide +kernel
theorem dX12_watchOf_6 : decode cX12_watchOf 6 = .ok (.iload_n 1, 1) := by decide +kernel
theorem dX12_watchOf_7 : decode cX12_watchOf 7 = .ok (.iadd, 1) := by decide +kernel
theorem dX12_watchOf_8 : decode cX12_watchOf 8 = .ok (.iaload, 1) := by decide +kernel
theorem dX12_watchOf_9 : decode cX12_watchOf 9 = .ok (.iload_n 2, 1) := by decide +kernel
theorem dX12_watchOf_10 : decode cX12_watchOf 10 = .ok (.aload_n 0, 1) := by decide +kernel
theorem dX12_watchOf_11 : decode cX12_watchOf 11 = .ok (.iload_n 2, 1) := by decide +kernel
theorem dX12_watchOf_12 : decode cX12_watchOf 12 = .ok (.invokevirtual 407, 3) := by decide +kernel
theorem dX12_watchOf_15 : decode cX12_watchOf 15 = .ok (.bipush 31, 2) := by decide +kernel
theorem dX12_watchOf_17 : decode cX12_watchOf 17 = .ok (.invokevirtual 413, 3) := by decide +kernel
theorem dX12_watchOf_20 : decode cX12_watchOf 20 = .ok (.ireturn, 1) := by decide +kernel
theorem dX12_sumOf_0 : decode cX12_sumOf 0 = .ok (.iconst 0, 1) := by decide +kernel
theorem dX12_sumOf_1 : decode cX12_sumOf 1 = .ok (.istore_n 1, 1) := by decide +kernel
theorem dX12_sumOf_2 : decode cX12_sumOf 2 = .ok (.iconst 0, 1) := by decide +kernel
theorem dX12_sumOf_3 : decode cX12_sumOf 3 = .ok (.istore_n 2, 1) := by decide +kernel
theorem dX12_sumOf_4 : decode cX12_sumOf 4 = .ok (.iload_n 2, 1) := by decide +kernel
theorem dX12_sumOf_5 : decode cX12_sumOf 5 = .ok (.aload_n 0, 1) := by decide +kernel
theorem dX12_sumOf_6 : decode cX12_sumOf 6 = .ok (.getfield 342, 3) := by decide +kernel
theorem dX12_sumOf_9 : decode cX12_sumOf 9 = .ok (.if_icmp .ge 32, 3) := by decide +kernel
theorem dX12_sumOf_12 : decode cX12_sumOf 12 = .ok (.iconst 0, 1) := by decide +kernel
theorem dX12_sumOf_13 : decode cX12_sumOf 13 = .ok (.istore_n 3, 1) := by decide +kernel
theorem dX12_sumOf_14 : decode cX12_sumOf 14 = .ok (.iload_n 3, 1) := by decide +kernel
theorem dX12_sumOf_15 : decode cX12_sumOf 15 = .ok (.bipush 10, 2) := by decide +kernel
theorem dX12_sumOf_17 : decode cX12_sumOf 17 = .ok (.if_icmp .ge 18, 3) := by decide +kernel
theorem dX12_sumOf_20 : decode cX12_sumOf 20 = .ok (.iload_n 1, 1) := by decide +kernel
theorem dX12_sumOf_21 : decode cX12_sumOf 21 = .ok (.aload_n 0, 1) := by decide +kernel
theorem dX12_sumOf_22 : decode cX12_sumOf 22 = .ok (.iload_n 2, 1) := by decide +kernel
theorem dX12_sumOf_23 : decode cX12_sumOf 23 = .ok (.iload_n 3, 1) := by decide +kernel
theorem dX12_sumOf_24 : decode cX12_sumOf 24 = .ok (.invokevirtual 417, 3) := by decide +kernel
theorem dX12_sumOf_27 : decode cX12_sumOf 27 = .ok (.iadd, 1) := by decide +kernel
theorem dX12_sumOf_28 : decode cX12_sumOf 28 = .ok (.istore_n 1, 1) := by decide +kernel
theorem dX12_sumOf_29 : decode cX12_sumOf 29 = .ok (.iinc 3 1, 3) := by decide +kernel
theorem dX12_sumOf_32 : decode cX12_sumOf 32 = .ok (.goto (-18), 3) := by decide +kernel
theorem dX12_sumOf_35 : decode cX12_sumOf 35 = .ok (.iinc 2 1, 3) := by decide +kernel
theorem dX12_sumOf_38 : decode cX12_sumOf 38 = .ok (.goto (-34), 3) := by decide +kernel
theorem dX12_sumOf_41 : decode cX12_sumOf 41 = .ok (.iload_n 1, 1) := by decide +kernel
theorem dX12_sumOf_42 : decode cX12_sumOf 42 = .ok (.ireturn, 1) := by decide +kernel
theorem dX12_count_0 : decode cX12_count 0 = .ok (.aload_n 0, 1) := by decide +kernel
theorem dX12_count_1 : decode cX12_count 1 = .ok (.iconst 0, 1) := by decide +kernel
theorem dX12_count_2 : decode cX12_count 2 = .ok (.putfield 159, 3) := by decide +kernel
theorem dX12_count_5 : decode cX12_count 5 = .ok (.aload_n 0, 1) := by decide +kernel
theorem dX12_count_6 : decode cX12_count 6 = .ok (.iload_n 1, 1) := by decide +kernel
theorem dX12_count_7 : decode cX12_count 7 = .ok (.iconst 0, 1) := by decide +kernel
theorem dX12_count_8 : decode cX12_count 8 = .ok (.bipush 12, 2) := by decide +kernel
theorem dX12_count_10 : decode cX12_count 10 = .ok (.invokestatic 420, 3) := by decide +kernel
theorem dX12_count_13 : decode cX12_count 13 = .ok (.iconst 1, 1) := by decide +kernel
theorem dX12_count_14 : decode cX12_count 14 = .ok (.invokevirtual 329, 3) := by decide +kernel
theorem dX12_count_17 : decode cX12_count 17 = .ok (.ifCond .ne 5, 3) := by decide +kernel
theorem dX12_count_20 : decode cX12_count 20 = .ok (.iconst 0, 1) := by decide +kernel
theorem dX12_count_21 : decode cX12_count 21 = .ok (.ireturn, 1) := by decide +kernel
theorem dX12_count_22 : decode cX12_count 22 = .ok (.iload_n 1, 1) := by decide +kernel
theorem dX12_count_23 : decode cX12_count 23 = .ok (.tableswitch 106 0 9 #[53, 58, 63, 68, 73, 78, 83, 91, 96, 101], 53) := by decide +kernel
theorem dX12_count_76 : decode cX12_count 76 = .ok (.aload_n 0, 1) := by decide +kernel
theorem dX12_count_77 : decode cX12_count 77 = .ok (.getfield 7, 3) := by decide +kernel
theorem dX12_count_80 : decode cX12_count 80 = .ok (.ireturn, 1) := by decide +kernel
theorem dX12_count_81 : decode cX12_count 81 = .ok (.aload_n 0, 1) := by decide +kernel
theorem dX12_count_82 : decode cX12_count 82 = .ok (.getfield 13, 3) := by decide +kernel
theorem dX12_count_85 : decode cX12_count 85 = .ok (.ireturn, 1) := by decide +kernel
theorem dX12_count_86 : decode cX12_count 86 = .ok (.aload_n 0, 1) := by decide +kernel
theorem dX12_count_87 : decode cX12_count 87 = .ok (.getfield 336, 3) := by decide +kernel
theorem dX12_count_90 : decode cX12_count 90 = .ok (.ireturn, 1) := by decide +kernel
theorem dX12_count_91 : decode cX12_count 91 = .ok (.aload_n 0, 1) := by decide +kernel
theorem dX12_count_92 : decode cX12_count 92 = .ok (.getfield 339, 3) := by decide +kernel
theorem dX12_count_95 : decode cX12_count 95 = .ok (.ireturn, 1) := by decide +kernel
theorem dX12_count_96 : decode cX12_count 96 = .ok (.aload_n 0, 1) := by decide +kernel
theorem dX12_count_97 : decode cX12_count 97 = .ok (.getfield 342, 3) := by decide +kernel
theorem dX12_count_100 : decode cX12_count 100 = .ok (.ireturn, 1) := by decide +kernel
theorem dX12_count_101 : decode cX12_count 101 = .ok (.aload_n 0, 1) := by decide +kernel
theorem dX12_count_102 : decode cX12_count 102 = .ok (.getfield 348, 3) := by decide +kernel
theorem dX12_count_105 : decode cX12_count 105 = .ok (.ireturn, 1) := by decide +kernel
theorem dX12_count_106 : decode cX12_count 106 = .ok (.aload_n 0, 1) := by decide +kernel
theorem dX12_count_107 : decode cX12_count 107 = .ok (.getfield 102, 3) := by decide +kernel
theorem dX12_count_110 : decode cX12_count 110 = .ok (.bipush 18, 2) := by decide +kernel
theorem dX12_count_112 : decode cX12_count 112 = .ok (.iaload, 1) := by decide +kernel
theorem dX12_count_113 : decode cX12_count 113 = .ok (.ireturn, 1) := by decide +kernel
theorem dX12_count_114 : decode cX12_count 114 = .ok (.aload_n 0, 1) := by decide +kernel
theorem dX12_count_115 : decode cX12_count 115 = .ok (.getfield 355, 3) := by decide +kernel
theorem dX12_count_118 : decode cX12_count 118 = .ok (.ireturn, 1) := by decide +kernel
theorem dX12_count_119 : decode cX12_count 119 = .ok (.aload_n 0, 1) := by decide +kernel
theorem dX12_count_120 : decode cX12_count 120 = .ok (.getfield 358, 3) := by decide +kernel
theorem dX12_count_123 : decode cX12_count 123 = .ok (.ireturn, 1) := by decide +kernel
theorem dX12_count_124 : decode cX12_count 124 = .ok (.aload_n 0, 1) := by decide +kernel
theorem dX12_count_125 : decode cX12_count 125 = .ok (.getfield 162, 3) := by decide +kernel
theorem dX12_count_128 : decode cX12_count 128 = .ok (.ireturn, 1) := by decide +kernel
theorem dX12_count_129 : decode cX12_count 129 = .ok (.aload_n 0, 1) := by decide +kernel
theorem dX12_count_130 : decode cX12_count 130 = .ok (.getfield 57, 3) := by decide +kernel
theorem dX12_count_133 : decode cX12_count 133 = .ok (.iload_n 1, 1) := by decide +kernel
theorem dX12_count_134 : decode cX12_count 134 = .ok (.bipush 10, 2) := by decide +kernel
theorem dX12_count_136 : decode cX12_count 136 = .ok (.isub, 1) := by decide +kernel
theorem dX12_count_137 : decode cX12_count 137 = .ok (.iaload, 1) := by decide +kernel
theorem dX12_count_138 : decode cX12_count 138 = .ok (.ireturn, 1) := by decide +kernel
theorem dX12_isLight_0 : decode cX12_isLight 0 = .ok (.aload_n 0, 1) := by decide +kernel
theorem dX12_isLight_1 : decode cX12_isLight 1 = .ok (.iload_n 1, 1) := by decide +kernel
theorem dX12_isLight_2 : decode cX12_isLight 2 = .ok (.ifCond .lt 15, 3) := by decide +kernel
theorem dX12_isLight_5 : decode cX12_isLight 5 = .ok (.iload_n 1, 1) := by decide +kernel
theorem dX12_isLight_6 : decode cX12_isLight 6 = .ok (.aload_n 0, 1) := by decide +kernel
theorem dX12_isLight_7 : decode cX12_isLight 7 = .ok (.getfield 339, 3) := by decide +kernel
theorem dX12_isLight_10 : decode cX12_isLight 10 = .ok (.if_icmp .ge 7, 3) := by decide +kernel
theorem dX12_isLight_13 : decode cX12_isLight 13 = .ok (.iconst 1, 1) := by decide +kernel
theorem dX12_isLight_14 : decode cX12_isLight 14 = .ok (.goto 4, 3) := by decide +kernel
theorem dX12_isLight_17 : decode cX12_isLight 17 = .ok (.iconst 0, 1) := by decide +kernel
theorem dX12_isLight_18 : decode cX12_isLight 18 = .ok (.iconst 1, 1) := by decide +kernel
theorem dX12_isLight_19 : decode cX12_isLight 19 = .ok (.invokevirtual 329, 3) := by decide +kernel
theorem dX12_isLight_22 : decode cX12_isLight 22 = .ok (.ireturn, 1) := by decide +kernel
theorem dX12_isShip_0 : decode cX12_isShip 0 = .ok (.aload_n 0, 1) := by decide +kernel
theorem dX12_isShip_1 : decode cX12_isShip 1 = .ok (.iload_n 1, 1) := by decide +kernel
theorem dX12_isShip_2 : decode cX12_isShip 2 = .ok (.ifCond .lt 15, 3) := by decide +kernel
theorem dX12_isShip_5 : decode cX12_isShip 5 = .ok (.iload_n 1, 1) := by decide +kernel
theorem dX12_isShip_6 : decode cX12_isShip 6 = .ok (.aload_n 0, 1) := by decide +kernel
theorem dX12_isShip_7 : decode cX12_isShip 7 = .ok (.getfield 342, 3) := by decide +kernel
theorem dX12_isShip_10 : decode cX12_isShip 10 = .ok (.if_icmp .ge 7, 3) := by decide +kernel
theorem dX12_isShip_13 : decode cX12_isShip 13 = .ok (.iconst 1, 1) := by decide +kernel
theorem dX12_isShip_14 : decode cX12_isShip 14 = .ok (.goto 4, 3) := by decide +kernel
theorem dX12_isShip_17 : decode cX12_isShip 17 = .ok (.iconst 0, 1) := by decide +kernel
theorem dX12_isShip_18 : decode cX12_isShip 18 = .ok (.iconst 1, 1) := by decide +kernel
theorem dX12_isShip_19 : decode cX12_isShip 19 = .ok (.invokevirtual 329, 3) := by decide +kernel
theorem dX12_isShip_22 : decode cX12_isShip 22 = .ok (.ireturn, 1) := by decide +kernel
theorem dX12_isHour_0 : decode cX12_isHour 0 = .ok (.aload_n 0, 1) := by decide +kernel
theorem dX12_isHour_1 : decode cX12_isHour 1 = .ok (.iload_n 1, 1) := by decide +kernel
theorem dX12_isHour_2 : decode cX12_isHour 2 = .ok (.iconst 0, 1) := by decide +kernel
theorem dX12_isHour_3 : decode cX12_isHour 3 = .ok (.sipush 239, 3) := by decide +kernel
theorem dX12_isHour_6 : decode cX12_isHour 6 = .ok (.invokestatic 420, 3) := by decide +kernel
theorem dX12_isHour_9 : decode cX12_isHour 9 = .ok (.iconst 1, 1) := by decide +kernel
theorem dX12_isHour_10 : decode cX12_isHour 10 = .ok (.invokevirtual 329, 3) := by decide +kernel
theorem dX12_isHour_13 : decode cX12_isHour 13 = .ok (.ireturn, 1) := by decide +kernel
theorem dX12_isNight_0 : decode cX12_isNight 0 = .ok (.aload_n 0, 1) := by decide +kernel
theorem dX12_isNight_1 : decode cX12_isNight 1 = .ok (.iload_n 1, 1) := by decide +kernel
theorem dX12_isNight_2 : decode cX12_isNight 2 = .ok (.iconst 0, 1) := by decide +kernel
theorem dX12_isNight_3 : decode cX12_isNight 3 = .ok (.bipush 9, 2) := by decide +kernel
theorem dX12_isNight_5 : decode cX12_isNight 5 = .ok (.invokestatic 420, 3) := by decide +kernel
theorem dX12_isNight_8 : decode cX12_isNight 8 = .ok (.iconst 1, 1) := by decide +kernel
theorem dX12_isNight_9 : decode cX12_isNight 9 = .ok (.invokevirtual 329, 3) := by decide +kernel
theorem dX12_isNight_12 : decode cX12_isNight 12 = .ok (.ireturn, 1) := by decide +kernel
theorem dX12_isWhat_0 : decode cX12_isWhat 0 = .ok (.aload_n 0, 1) := by decide +kernel
theorem dX12_isWhat_1 : decode cX12_isWhat 1 = .ok (.iload_n 1, 1) := by decide +kernel
theorem dX12_isWhat_2 : decode cX12_isWhat 2 = .ok (.iconst 0, 1) := by decide +kernel
theorem dX12_isWhat_3 : decode cX12_isWhat 3 = .ok (.iload_n 2, 1) := by decide +kernel
theorem dX12_isWhat_4 : decode cX12_isWhat 4 = .ok (.invokestatic 420, 3) := by decide +kernel
theorem dX12_isWhat_7 : decode cX12_isWhat 7 = .ok (.iconst 1, 1) := by decide +kernel
theorem dX12_isWhat_8 : decode cX12_isWhat 8 = .ok (.invokevirtual 329, 3) := by decide +kernel
theorem dX12_isWhat_11 : decode cX12_isWhat 11 = .ok (.ireturn, 1) := by decide +kernel
theorem dX12_light_0 : decode cX12_light 0 = .ok (.aload_n 0, 1) := by decide +kernel
theorem dX12_light_1 : decode cX12_light 1 = .ok (.iconst 0, 1) := by decide +kernel
theorem dX12_light_2 : decode cX12_light 2 = .ok (.putfield 159, 3) := by decide +kernel
theorem dX12_light_5 : decode cX12_light 5 = .ok (.aload_n 0, 1) := by decide +kernel
theorem dX12_light_6 : decode cX12_light 6 = .ok (.iload_n 1, 1) := by decide +kernel
theorem dX12_light_7 : decode cX12_light 7 = .ok (.invokevirtual 424, 3) := by decide +kernel
theorem dX12_light_10 : decode cX12_light 10 = .ok (.ifCond .eq 13, 3) := by decide +kernel
theorem dX12_light_13 : decode cX12_light 13 = .ok (.aload_n 0, 1) := by decide +kernel
theorem dX12_light_14 : decode cX12_light 14 = .ok (.iload_n 2, 1) := by decide +kernel
theorem dX12_light_15 : decode cX12_light 15 = .ok (.bipush 6, 2) := by decide +kernel
theorem dX12_light_17 : decode cX12_light 17 = .ok (.invokevirtual 427, 3) := by decide +kernel
theorem dX12_light_20 : decode cX12_light 20 = .ok (.ifCond .ne 5, 3) := by decide +kernel
theorem dX12_light_23 : decode cX12_light 23 = .ok (.iconst 0, 1) := by decide +kernel
theorem dX12_light_24 : decode cX12_light 24 = .ok (.ireturn, 1) := by decide +kernel
theorem dX12_light_25 : decode cX12_light 25 = .ok (.iconst 0, 1) := by decide +kernel
theorem dX12_light_26 : decode cX12_light 26 = .ok (.istore_n 3, 1) := by decide +kernel
theorem dX12_light_27 : decode cX12_light 27 = .ok (.iload_n 2, 1) := by decide +kernel
theorem dX12_light_28 : decode cX12_light 28 = .ok (.tableswitch 87 0 5 #[40, 50, 57, 66, 73, 80], 40) := by decide +kernel
theorem dX12_light_68 : decode cX12_light 68 = .ok (.aload_n 0, 1) := by decide +kernel
theorem dX12_light_69 : decode cX12_light 69 = .ok (.getfield 102, 3) := by decide +kernel
theorem dX12_light_72 : decode cX12_light 72 = .ok (.bipush 13, 2) := by decide +kernel
theorem dX12_light_74 : decode cX12_light 74 = .ok (.iload_n 1, 1) := by decide +kernel
theorem dX12_light_75 : decode cX12_light 75 = .ok (.iadd, 1) := by decide +kernel
theorem dX12_light_76 : decode cX12_light 76 = .ok (.iaload, 1) := by decide +kernel
theorem dX12_light_77 : decode cX12_light 77 = .ok (.ireturn, 1) := by decide +kernel
theorem dX12_light_78 : decode cX12_light 78 = .ok (.aload_n 0, 1) := by decide +kernel
theorem dX12_light_79 : decode cX12_light 79 = .ok (.getfield 20, 3) := by decide +kernel
theorem dX12_light_82 : decode cX12_light 82 = .ok (.iload_n 1, 1) := by decide +kernel
theorem dX12_light_83 : decode cX12_light 83 = .ok (.iaload, 1) := by decide +kernel
theorem dX12_light_84 : decode cX12_light 84 = .ok (.ireturn, 1) := by decide +kernel
theorem dX12_light_85 : decode cX12_light 85 = .ok (.aload_n 0, 1) := by decide +kernel
theorem dX12_light_86 : decode cX12_light 86 = .ok (.getfield 102, 3) := by decide +kernel
theorem dX12_light_89 : decode cX12_light 89 = .ok (.iconst 0, 1) := by decide +kernel
theorem dX12_light_90 : decode cX12_light 90 = .ok (.iload_n 1, 1) := by decide +kernel
theorem dX12_light_91 : decode cX12_light 91 = .ok (.iadd, 1) := by decide +kernel
theorem dX12_light_92 : decode cX12_light 92 = .ok (.iaload, 1) := by decide +kernel
theorem dX12_light_93 : decode cX12_light 93 = .ok (.ireturn, 1) := by decide +kernel
theorem dX12_light_94 : decode cX12_light 94 = .ok (.aload_n 0, 1) := by decide +kernel
theorem dX12_light_95 : decode cX12_light 95 = .ok (.getfield 23, 3) := by decide +kernel
theorem dX12_light_98 : decode cX12_light 98 = .ok (.iload_n 1, 1) := by decide +kernel
theorem dX12_light_99 : decode cX12_light 99 = .ok (.iaload, 1) := by decide +kernel
theorem dX12_light_100 : decode cX12_light 100 = .ok (.ireturn, 1) := by decide +kernel
theorem dX12_light_101 : decode cX12_light 101 = .ok (.aload_n 0, 1) := by decide +kernel
theorem dX12_light_102 : decode cX12_light 102 = .ok (.getfield 26, 3) := by decide +kernel
theorem dX12_light_105 : decode cX12_light 105 = .ok (.iload_n 1, 1) := by decide +kernel
theorem dX12_light_106 : decode cX12_light 106 = .ok (.iaload, 1) := by decide +kernel
theorem dX12_light_107 : decode cX12_light 107 = .ok (.ireturn, 1) := by decide +kernel
theorem dX12_light_108 : decode cX12_light 108 = .ok (.aload_n 0, 1) := by decide +kernel
theorem dX12_light_109 : decode cX12_light 109 = .ok (.getfield 32, 3) := by decide +kernel
theorem dX12_light_112 : decode cX12_light 112 = .ok (.iload_n 1, 1) := by decide +kernel
theorem dX12_light_113 : decode cX12_light 113 = .ok (.iaload, 1) := by decide +kernel
theorem dX12_light_114 : decode cX12_light 114 = .ok (.ireturn, 1) := by decide +kernel
theorem dX12_light_115 : decode cX12_light 115 = .ok (.iconst 0, 1) := by decide +kernel
theorem dX12_light_116 : decode cX12_light 116 = .ok (.istore 4, 2) := by decide +kernel
theorem dX12_light_118 : decode cX12_light 118 = .ok (.iload 4, 2) := by decide +kernel
theorem dX12_light_120 : decode cX12_light 120 = .ok (.aload_n 0, 1) := by decide +kernel
theorem dX12_light_121 : decode cX12_light 121 = .ok (.getfield 32, 3) := by decide +kernel
theorem dX12_light_124 : decode cX12_light 124 = .ok (.iload_n 1, 1) := by decide +kernel
theorem dX12_light_125 : decode cX12_light 125 = .ok (.iaload, 1) := by decide +kernel
theorem dX12_light_126 : decode cX12_light 126 = .ok (.if_icmp .ge 27, 3) := by decide +kernel
theorem dX12_light_129 : decode cX12_light 129 = .ok (.iload_n 3, 1) := by decide +kernel
theorem dX12_light_130 : decode cX12_light 130 = .ok (.aload_n 0, 1) := by decide +kernel
theorem dX12_light_131 : decode cX12_light 131 = .ok (.getfield 35, 3) := by decide +kernel
theorem dX12_light_134 : decode cX12_light 134 = .ok (.bipush 6, 2) := by decide +kernel
theorem dX12_light_136 : decode cX12_light 136 = .ok (.iload_n 1, 1) := by decide +kernel
theorem dX12_light_137 : decode cX12_light 137 = .ok (.imul, 1) := by decide +kernel
theorem dX12_light_138 : decode cX12_light 138 = .ok (.iload 4, 2) := by decide +kernel
theorem dX12_light_140 : decode cX12_light 140 = .ok (.iadd, 1) := by decide +kernel
theorem dX12_light_141 : decode cX12_light 141 = .ok (.iaload, 1) := by decide +kernel
theorem dX12_light_142 : decode cX12_light 142 = .ok (.iload 4, 2) := by decide +kernel
theorem dX12_light_144 : decode cX12_light 144 = .ok (.ishl, 1) := by decide +kernel
theorem dX12_light_145 : decode cX12_light 145 = .ok (.ior, 1) := by decide +kernel
theorem dX12_light_146 : decode cX12_light 146 = .ok (.istore_n 3, 1) := by decide +kernel
theorem dX12_light_147 : decode cX12_light 147 = .ok (.iinc 4 1, 3) := by decide +kernel
theorem dX12_light_150 : decode cX12_light 150 = .ok (.goto (-32), 3) := by decide +kernel
theorem dX12_light_153 : decode cX12_light 153 = .ok (.iload_n 3, 1) := by decide +kernel
theorem dX12_light_154 : decode cX12_light 154 = .ok (.ireturn, 1) := by decide +kernel
theorem dX12_unseen_0 : decode cX12_unseen 0 = .ok (.iconst 0, 1) := by decide +kernel
theorem dX12_unseen_1 : decode cX12_unseen 1 = .ok (.istore_n 2, 1) := by decide +kernel
theorem dX12_unseen_2 : decode cX12_unseen 2 = .ok (.iload_n 2, 1) := by decide +kernel
theorem dX12_unseen_3 : decode cX12_unseen 3 = .ok (.bipush 10, 2) := by decide +kernel
theorem dX12_unseen_5 : decode cX12_unseen 5 = .ok (.if_icmp .ge 20, 3) := by decide +kernel
theorem dX12_unseen_8 : decode cX12_unseen 8 = .ok (.aload_n 0, 1) := by decide +kernel
theorem dX12_unseen_9 : decode cX12_unseen 9 = .ok (.iload_n 1, 1) := by decide +kernel
theorem dX12_unseen_10 : decode cX12_unseen 10 = .ok (.iload_n 2, 1) := by decide +kernel
theorem dX12_unseen_11 : decode cX12_unseen 11 = .ok (.invokevirtual 417, 3) := by decide +kernel
theorem dX12_unseen_14 : decode cX12_unseen 14 = .ok (.ifCond .ne 5, 3) := by decide +kernel
theorem dX12_unseen_17 : decode cX12_unseen 17 = .ok (.iload_n 2, 1) := by decide +kernel
theorem dX12_unseen_18 : decode cX12_unseen 18 = .ok (.ireturn, 1) := by decide +kernel
theorem dX12_unseen_19 : decode cX12_unseen 19 = .ok (.iinc 2 1, 3) := by decide +kernel
theorem dX12_unseen_22 : decode cX12_unseen 22 = .ok (.goto (-20), 3) := by decide +kernel
theorem dX12_unseen_25 : decode cX12_unseen 25 = .ok (.iconst (-1), 1) := by decide +kernel
theorem dX12_unseen_26 : decode cX12_unseen 26 = .ok (.ireturn, 1) := by decide +kernel
theorem dX12_longestDark_0 : decode cX12_longestDark 0 = .ok (.iconst 0, 1) := by decide +kernel
theorem dX12_longestDark_1 : decode cX12_longestDark 1 = .ok (.istore_n 2, 1) := by decide +kernel
theorem dX12_longestDark_2 : decode cX12_longestDark 2 = .ok (.iconst 0, 1) := by decide +kernel
theorem dX12_longestDark_3 : decode cX12_longestDark 3 = .ok (.istore_n 3, 1) := by decide +kernel
theorem dX12_longestDark_4 : decode cX12_longestDark 4 = .ok (.iconst 0, 1) := by decide +kernel
theorem dX12_longestDark_5 : decode cX12_longestDark 5 = .ok (.istore 4, 2) := by decide +kernel
theorem dX12_longestDark_7 : decode cX12_longestDark 7 = .ok (.iload 4, 2) := by decide +kernel
theorem dX12_longestDark_9 : decode cX12_longestDark 9 = .ok (.sipush 240, 3) := by decide +kernel
theorem dX12_longestDark_12 : decode cX12_longestDark 12 = .ok (.if_icmp .ge 51, 3) := by decide +kernel
theorem dX12_longestDark_15 : decode cX12_longestDark 15 = .ok (.iload 4, 2) := by decide +kernel
theorem dX12_longestDark_17 : decode cX12_longestDark 17 = .ok (.bipush 24, 2) := by decide +kernel
theorem dX12_longestDark_19 : decode cX12_longestDark 19 = .ok (.irem, 1) := by decide +kernel
theorem dX12_longestDark_20 : decode cX12_longestDark 20 = .ok (.bipush 12, 2) := by decide +kernel
theorem dX12_longestDark_22 : decode cX12_longestDark 22 = .ok (.if_icmp .ge 6, 3) := by decide +kernel
theorem dX12_longestDark_25 : decode cX12_longestDark 25 = .ok (.goto 32, 3) := by decide +kernel
theorem dX12_longestDark_28 : decode cX12_longestDark 28 = .ok (.aload_n 0, 1) := by decide +kernel
theorem dX12_longestDark_29 : decode cX12_longestDark 29 = .ok (.iload_n 1, 1) := by decide +kernel
theorem dX12_longestDark_30 : decode cX12_longestDark 30 = .ok (.iload 4, 2) := by decide +kernel
theorem dX12_longestDark_32 : decode cX12_longestDark 32 = .ok (.invokevirtual 430, 3) := by decide +kernel
theorem dX12_longestDark_35 : decode cX12_longestDark 35 = .ok (.ifCond .ne 9, 3) := by decide +kernel
theorem dX12_longestDark_38 : decode cX12_longestDark 38 = .ok (.iload_n 3, 1) := by decide +kernel
theorem dX12_longestDark_39 : decode cX12_longestDark 39 = .ok (.iconst 1, 1) := by decide +kernel
theorem dX12_longestDark_40 : decode cX12_longestDark 40 = .ok (.iadd, 1) := by decide +kernel
theorem dX12_longestDark_41 : decode cX12_longestDark 41 = .ok (.goto 4, 3) := by decide +kernel
theorem dX12_longestDark_44 : decode cX12_longestDark 44 = .ok (.iconst 0, 1) := by decide +kernel
theorem dX12_longestDark_45 : decode cX12_longestDark 45 = .ok (.istore_n 3, 1) := by decide +kernel
theorem dX12_longestDark_46 : decode cX12_longestDark 46 = .ok (.iload_n 3, 1) := by decide +kernel
theorem dX12_longestDark_47 : decode cX12_longestDark 47 = .ok (.iload_n 2, 1) := by decide +kernel
theorem dX12_longestDark_48 : decode cX12_longestDark 48 = .ok (.if_icmp .le 7, 3) := by decide +kernel
theorem dX12_longestDark_51 : decode cX12_longestDark 51 = .ok (.iload_n 3, 1) := by decide +kernel
theorem dX12_longestDark_52 : decode cX12_longestDark 52 = .ok (.goto 4, 3) := by decide +kernel
theorem dX12_longestDark_55 : decode cX12_longestDark 55 = .ok (.iload_n 2, 1) := by decide +kernel
theorem dX12_longestDark_56 : decode cX12_longestDark 56 = .ok (.istore_n 2, 1) := by decide +kernel
theorem dX12_longestDark_57 : decode cX12_longestDark 57 = .ok (.iinc 4 1, 3) := by decide +kernel
theorem dX12_longestDark_60 : decode cX12_longestDark 60 = .ok (.goto (-53), 3) := by decide +kernel
theorem dX12_longestDark_63 : decode cX12_longestDark 63 = .ok (.iload_n 2, 1) := by decide +kernel
theorem dX12_longestDark_64 : decode cX12_longestDark 64 = .ok (.ireturn, 1) := by decide +kernel
theorem dX12_ship_0 : decode cX12_ship 0 = .ok (.aload_n 0, 1) := by decide +kernel
theorem dX12_ship_1 : decode cX12_ship 1 = .ok (.iconst 0, 1) := by decide +kernel
theorem dX12_ship_2 : decode cX12_ship 2 = .ok (.putfield 159, 3) := by decide +kernel
theorem dX12_ship_5 : decode cX12_ship 5 = .ok (.aload_n 0, 1) := by decide +kernel
theorem dX12_ship_6 : decode cX12_ship 6 = .ok (.iload_n 1, 1) := by decide +kernel
theorem dX12_ship_7 : decode cX12_ship 7 = .ok (.invokevirtual 433, 3) := by decide +kernel
theorem dX12_ship_10 : decode cX12_ship 10 = .ok (.ifCond .eq 12, 3) := by decide +kernel
theorem dX12_ship_13 : decode cX12_ship 13 = .ok (.aload_n 0, 1) := by decide +kernel
theorem dX12_ship_14 : decode cX12_ship 14 = .ok (.iload_n 2, 1) := by decide +kernel
theorem dX12_ship_15 : decode cX12_ship 15 = .ok (.iconst 3, 1) := by decide +kernel
theorem dX12_ship_16 : decode cX12_ship 16 = .ok (.invokevirtual 427, 3) := by decide +kernel
theorem dX12_ship_19 : decode cX12_ship 19 = .ok (.ifCond .ne 5, 3) := by decide +kernel
theorem dX12_ship_22 : decode cX12_ship 22 = .ok (.iconst 0, 1) := by decide +kernel
theorem dX12_ship_23 : decode cX12_ship 23 = .ok (.ireturn, 1) := by decide +kernel
theorem dX12_ship_24 : decode cX12_ship 24 = .ok (.iload_n 2, 1) := by decide +kernel
theorem dX12_ship_25 : decode cX12_ship 25 = .ok (.iconst 2, 1) := by decide +kernel
theorem dX12_ship_26 : decode cX12_ship 26 = .ok (.if_icmp .ge 28, 3) := by decide +kernel
theorem dX12_ship_29 : decode cX12_ship 29 = .ok (.iload_n 2, 1) := by decide +kernel
theorem dX12_ship_30 : decode cX12_ship 30 = .ok (.ifCond .ne 14, 3) := by decide +kernel
theorem dX12_ship_33 : decode cX12_ship 33 = .ok (.aload_n 0, 1) := by decide +kernel
theorem dX12_ship_34 : decode cX12_ship 34 = .ok (.getfield 102, 3) := by decide +kernel
theorem dX12_ship_37 : decode cX12_ship 37 = .ok (.iconst 5, 1) := by decide +kernel
theorem dX12_ship_38 : decode cX12_ship 38 = .ok (.iload_n 1, 1) := by decide +kernel
theorem dX12_ship_39 : decode cX12_ship 39 = .ok (.iadd, 1) := by decide +kernel
theorem dX12_ship_40 : decode cX12_ship 40 = .ok (.iaload, 1) := by decide +kernel
theorem dX12_ship_41 : decode cX12_ship 41 = .ok (.goto 12, 3) := by decide +kernel
theorem dX12_ship_44 : decode cX12_ship 44 = .ok (.aload_n 0, 1) := by decide +kernel
theorem dX12_ship_45 : decode cX12_ship 45 = .ok (.getfield 102, 3) := by decide +kernel
theorem dX12_ship_48 : decode cX12_ship 48 = .ok (.bipush 19, 2) := by decide +kernel
theorem dX12_ship_50 : decode cX12_ship 50 = .ok (.iload_n 1, 1) := by decide +kernel
theorem dX12_ship_51 : decode cX12_ship 51 = .ok (.iadd, 1) := by decide +kernel
theorem dX12_ship_52 : decode cX12_ship 52 = .ok (.iaload, 1) := by decide +kernel
theorem dX12_ship_53 : decode cX12_ship 53 = .ok (.ireturn, 1) := by decide +kernel
theorem dX12_ship_54 : decode cX12_ship 54 = .ok (.aload_n 0, 1) := by decide +kernel
theorem dX12_ship_55 : decode cX12_ship 55 = .ok (.invokevirtual 436, 3) := by decide +kernel
theorem dX12_ship_58 : decode cX12_ship 58 = .ok (.iload_n 2, 1) := by decide +kernel
theorem dX12_ship_59 : decode cX12_ship 59 = .ok (.iconst 2, 1) := by decide +kernel
theorem dX12_ship_60 : decode cX12_ship 60 = .ok (.if_icmp .ne 11, 3) := by decide +kernel
theorem dX12_ship_63 : decode cX12_ship 63 = .ok (.aload_n 0, 1) := by decide +kernel
theorem dX12_ship_64 : decode cX12_ship 64 = .ok (.iload_n 1, 1) := by decide +kernel
theorem dX12_ship_65 : decode cX12_ship 65 = .ok (.invokevirtual 439, 3) := by decide +kernel
theorem dX12_ship_68 : decode cX12_ship 68 = .ok (.goto 8, 3) := by decide +kernel
theorem dX12_ship_71 : decode cX12_ship 71 = .ok (.aload_n 0, 1) := by decide +kernel
theorem dX12_ship_72 : decode cX12_ship 72 = .ok (.iload_n 1, 1) := by decide +kernel
theorem dX12_ship_73 : decode cX12_ship 73 = .ok (.invokevirtual 442, 3) := by decide +kernel
theorem dX12_ship_76 : decode cX12_ship 76 = .ok (.ireturn, 1) := by decide +kernel
theorem dX12_where_0 : decode cX12_where 0 = .ok (.aload_n 0, 1) := by decide +kernel
theorem dX12_where_1 : decode cX12_where 1 = .ok (.iconst 0, 1) := by decide +kernel
theorem dX12_where_2 : decode cX12_where 2 = .ok (.putfield 159, 3) := by decide +kernel
theorem dX12_where_5 : decode cX12_where 5 = .ok (.aload_n 0, 1) := by decide +kernel
theorem dX12_where_6 : decode cX12_where 6 = .ok (.iload_n 1, 1) := by decide +kernel
theorem dX12_where_7 : decode cX12_where 7 = .ok (.invokevirtual 424, 3) := by decide +kernel
theorem dX12_where_10 : decode cX12_where 10 = .ok (.ifCond .eq 11, 3) := by decide +kernel
theorem dX12_where_13 : decode cX12_where 13 = .ok (.aload_n 0, 1) := by decide +kernel
theorem dX12_where_14 : decode cX12_where 14 = .ok (.iload_n 2, 1) := by decide +kernel
theorem dX12_where_15 : decode cX12_where 15 = .ok (.invokevirtual 445, 3) := by decide +kernel
theorem dX12_where_18 : decode cX12_where 18 = .ok (.ifCond .ne 5, 3) := by decide +kernel
theorem dX12_where_21 : decode cX12_where 21 = .ok (.iconst 0, 1) := by decide +kernel
theorem dX12_where_22 : decode cX12_where 22 = .ok (.ireturn, 1) := by decide +kernel
theorem dX12_where_23 : decode cX12_where 23 = .ok (.aload_n 0, 1) := by decide +kernel
theorem dX12_where_24 : decode cX12_where 24 = .ok (.invokevirtual 436, 3) := by decide +kernel
theorem dX12_where_27 : decode cX12_where 27 = .ok (.aload_n 0, 1) := by decide +kernel
theorem dX12_where_28 : decode cX12_where 28 = .ok (.getfield 114, 3) := by decide +kernel
theorem dX12_where_31 : decode cX12_where 31 = .ok (.sipush 240, 3) := by decide +kernel
theorem dX12_where_34 : decode cX12_where 34 = .ok (.iload_n 1, 1) := by decide +kernel
theorem dX12_where_35 : decode cX12_where 35 = .ok (.imul, 1) := by decide +kernel
theorem dX12_where_36 : decode cX12_where 36 = .ok (.iload_n 2, 1) := by decide +kernel
theorem dX12_where_37 : decode cX12_where 37 = .ok (.iadd, 1) := by decide +kernel
theorem dX12_where_38 : decode cX12_where 38 = .ok (.iaload, 1) := by decide +kernel
theorem dX12_where_39 : decode cX12_where 39 = .ok (.ireturn, 1) := by decide +kernel
theorem dX12_lamp_0 : decode cX12_lamp 0 = .ok (.aload_n 0, 1) := by decide +kernel
theorem dX12_lamp_1 : decode cX12_lamp 1 = .ok (.iconst 0, 1) := by decide +kernel
theorem dX12_lamp_2 : decode cX12_lamp 2 = .ok (.putfield 159, 3) := by decide +kernel
theorem dX12_lamp_5 : decode cX12_lamp 5 = .ok (.aload_n 0, 1) := by decide +kernel
theorem dX12_lamp_6 : decode cX12_lamp 6 = .ok (.iload_n 1, 1) := by decide +kernel
theorem dX12_lamp_7 : decode cX12_lamp 7 = .ok (.invokevirtual 424, 3) := by decide +kernel
theorem dX12_lamp_10 : decode cX12_lamp 10 = .ok (.ifCond .eq 20, 3) := by decide +kernel
theorem dX12_lamp_13 : decode cX12_lamp 13 = .ok (.aload_n 0, 1) := by decide +kernel
theorem dX12_lamp_14 : decode cX12_lamp 14 = .ok (.iload_n 2, 1) := by decide +kernel
theorem dX12_lamp_15 : decode cX12_lamp 15 = .ok (.invokevirtual 445, 3) := by decide +kernel
theorem dX12_lamp_18 : decode cX12_lamp 18 = .ok (.ifCond .eq 12, 3) := by decide +kernel
theorem dX12_lamp_21 : decode cX12_lamp 21 = .ok (.aload_n 0, 1) := by decide +kernel
theorem dX12_lamp_22 : decode cX12_lamp 22 = .ok (.iload_n 3, 1) := by decide +kernel
theorem dX12_lamp_23 : decode cX12_lamp 23 = .ok (.iconst 1, 1) := by decide +kernel
theorem dX12_lamp_24 : decode cX12_lamp 24 = .ok (.invokevirtual 427, 3) := by decide +kernel
theorem dX12_lamp_27 : decode cX12_lamp 27 = .ok (.ifCond .ne 5, 3) := by decide +kernel
theorem dX12_lamp_30 : decode cX12_lamp 30 = .ok (.iconst 0, 1) := by decide +kernel
theorem dX12_lamp_31 : decode cX12_lamp 31 = .ok (.ireturn, 1) := by decide +kernel
theorem dX12_lamp_32 : decode cX12_lamp 32 = .ok (.aload_n 0, 1) := by decide +kernel
theorem dX12_lamp_33 : decode cX12_lamp 33 = .ok (.invokevirtual 436, 3) := by decide +kernel
theorem dX12_lamp_36 : decode cX12_lamp 36 = .ok (.iload_n 3, 1) := by decide +kernel
theorem dX12_lamp_37 : decode cX12_lamp 37 = .ok (.ifCond .ne 18, 3) := by decide +kernel
theorem dX12_lamp_40 : decode cX12_lamp 40 = .ok (.aload_n 0, 1) := by decide +kernel
theorem dX12_lamp_41 : decode cX12_lamp 41 = .ok (.getfield 117, 3) := by decide +kernel
theorem dX12_lamp_44 : decode cX12_lamp 44 = .ok (.sipush 240, 3) := by decide +kernel
theorem dX12_lamp_47 : decode cX12_lamp 47 = .ok (.iload_n 1, 1) := by decide +kernel
theorem dX12_lamp_48 : decode cX12_lamp 48 = .ok (.imul, 1) := by decide +kernel
theorem dX12_lamp_49 : decode cX12_lamp 49 = .ok (.iload_n 2, 1) := by decide +kernel
theorem dX12_lamp_50 : decode cX12_lamp 50 = .ok (.iadd, 1) := by decide +kernel
theorem dX12_lamp_51 : decode cX12_lamp 51 = .ok (.iaload, 1) := by decide +kernel
theorem dX12_lamp_52 : decode cX12_lamp 52 = .ok (.goto 17, 3) := by decide +kernel
theorem dX12_lamp_55 : decode cX12_lamp 55 = .ok (.aload_n 0, 1) := by decide +kernel
theorem dX12_lamp_56 : decode cX12_lamp 56 = .ok (.iload_n 1, 1) := by decide +kernel
theorem dX12_lamp_57 : decode cX12_lamp 57 = .ok (.iload_n 2, 1) := by decide +kernel
theorem dX12_lamp_58 : decode cX12_lamp 58 = .ok (.invokevirtual 369, 3) := by decide +kernel
theorem dX12_lamp_61 : decode cX12_lamp 61 = .ok (.ifCond .eq 7, 3) := by decide +kernel
theorem dX12_lamp_64 : decode cX12_lamp 64 = .ok (.iconst 1, 1) := by decide +kernel
theorem dX12_lamp_65 : decode cX12_lamp 65 = .ok (.goto 4, 3) := by decide +kernel
theorem dX12_lamp_68 : decode cX12_lamp 68 = .ok (.iconst 0, 1) := by decide +kernel
theorem dX12_lamp_69 : decode cX12_lamp 69 = .ok (.ireturn, 1) := by decide +kernel
theorem dX12_seen_0 : decode cX12_seen 0 = .ok (.aload_n 0, 1) := by decide +kernel
theorem dX12_seen_1 : decode cX12_seen 1 = .ok (.iconst 0, 1) := by decide +kernel
theorem dX12_seen_2 : decode cX12_seen 2 = .ok (.putfield 159, 3) := by decide +kernel
theorem dX12_seen_5 : decode cX12_seen 5 = .ok (.aload_n 0, 1) := by decide +kernel
theorem dX12_seen_6 : decode cX12_seen 6 = .ok (.iload_n 1, 1) := by decide +kernel
theorem dX12_seen_7 : decode cX12_seen 7 = .ok (.invokevirtual 433, 3) := by decide +kernel
theorem dX12_seen_10 : decode cX12_seen 10 = .ok (.ifCond .eq 11, 3) := by decide +kernel
theorem dX12_seen_13 : decode cX12_seen 13 = .ok (.aload_n 0, 1) := by decide +kernel
theorem dX12_seen_14 : decode cX12_seen 14 = .ok (.iload_n 2, 1) := by decide +kernel
theorem dX12_seen_15 : decode cX12_seen 15 = .ok (.invokevirtual 445, 3) := by decide +kernel
theorem dX12_seen_18 : decode cX12_seen 18 = .ok (.ifCond .ne 5, 3) := by decide +kernel
theorem dX12_seen_21 : decode cX12_seen 21 = .ok (.iconst 0, 1) := by decide +kernel
theorem dX12_seen_22 : decode cX12_seen 22 = .ok (.ireturn, 1) := by decide +kernel
theorem dX12_seen_23 : decode cX12_seen 23 = .ok (.aload_n 0, 1) := by decide +kernel
theorem dX12_seen_24 : decode cX12_seen 24 = .ok (.invokevirtual 436, 3) := by decide +kernel
theorem dX12_seen_27 : decode cX12_seen 27 = .ok (.aload_n 0, 1) := by decide +kernel
theorem dX12_seen_28 : decode cX12_seen 28 = .ok (.iload_n 1, 1) := by decide +kernel
theorem dX12_seen_29 : decode cX12_seen 29 = .ok (.iload_n 2, 1) := by decide +kernel
theorem dX12_seen_30 : decode cX12_seen 30 = .ok (.invokevirtual 430, 3) := by decide +kernel
theorem dX12_seen_33 : decode cX12_seen 33 = .ok (.ireturn, 1) := by decide +kernel
theorem dX12_watch_0 : decode cX12_watch 0 = .ok (.aload_n 0, 1) := by decide +kernel
theorem dX12_watch_1 : decode cX12_watch 1 = .ok (.iconst 0, 1) := by decide +kernel
theorem dX12_watch_2 : decode cX12_watch 2 = .ok (.putfield 159, 3) := by decide +kernel
theorem dX12_watch_5 : decode cX12_watch 5 = .ok (.aload_n 0, 1) := by decide +kernel
theorem dX12_watch_6 : decode cX12_watch 6 = .ok (.iload_n 1, 1) := by decide +kernel
theorem dX12_watch_7 : decode cX12_watch 7 = .ok (.invokevirtual 433, 3) := by decide +kernel
theorem dX12_watch_10 : decode cX12_watch 10 = .ok (.ifCond .eq 11, 3) := by decide +kernel
theorem dX12_watch_13 : decode cX12_watch 13 = .ok (.aload_n 0, 1) := by decide +kernel
theorem dX12_watch_14 : decode cX12_watch 14 = .ok (.iload_n 2, 1) := by decide +kernel
theorem dX12_watch_15 : decode cX12_watch 15 = .ok (.invokevirtual 448, 3) := by decide +kernel
theorem dX12_watch_18 : decode cX12_watch 18 = .ok (.ifCond .ne 5, 3) := by decide +kernel
theorem dX12_watch_21 : decode cX12_watch 21 = .ok (.iconst 0, 1) := by decide +kernel
theorem dX12_watch_22 : decode cX12_watch 22 = .ok (.ireturn, 1) := by decide +kernel
theorem dX12_watch_23 : decode cX12_watch 23 = .ok (.aload_n 0, 1) := by decide +kernel
theorem dX12_watch_24 : decode cX12_watch 24 = .ok (.invokevirtual 436, 3) := by decide +kernel
theorem dX12_watch_27 : decode cX12_watch 27 = .ok (.aload_n 0, 1) := by decide +kernel
theorem dX12_watch_28 : decode cX12_watch 28 = .ok (.iload_n 1, 1) := by decide +kernel
theorem dX12_watch_29 : decode cX12_watch 29 = .ok (.iload_n 2, 1) := by decide +kernel
theorem dX12_watch_30 : decode cX12_watch 30 = .ok (.invokevirtual 417, 3) := by decide +kernel
theorem dX12_watch_33 : decode cX12_watch 33 = .ok (.ireturn, 1) := by decide +kernel
theorem dX12_contentBy_0 : decode cX12_contentBy 0 = .ok (.iconst 0, 1) := by decide +kernel
theorem dX12_contentBy_1 : decode cX12_contentBy 1 = .ok (.istore 4, 2) := by decide +kernel
theorem dX12_contentBy_3 : decode cX12_contentBy 3 = .ok (.iconst 0, 1) := by decide +kernel
theorem dX12_contentBy_4 : decode cX12_contentBy 4 = .ok (.istore 5, 2) := by decide +kernel
theorem dX12_contentBy_6 : decode cX12_contentBy 6 = .ok (.iload 5, 2) := by decide +kernel
theorem dX12_contentBy_8 : decode cX12_contentBy 8 = .ok (.aload_n 0, 1) := by decide +kernel
theorem dX12_contentBy_9 : decode cX12_contentBy 9 = .ok (.getfield 342, 3) := by decide +kernel
theorem dX12_contentBy_12 : decode cX12_contentBy 12 = .ok (.if_icmp .ge 51, 3) := by decide +kernel
theorem dX12_contentBy_15 : decode cX12_contentBy 15 = .ok (.iload 4, 2) := by decide +kernel
theorem dX12_contentBy_17 : decode cX12_contentBy 17 = .ok (.aload_n 0, 1) := by decide +kernel
theorem dX12_contentBy_18 : decode cX12_contentBy 18 = .ok (.aload_n 0, 1) := by decide +kernel
theorem dX12_contentBy_19 : decode cX12_contentBy 19 = .ok (.getfield 102, 3) := by decide +kernel
theorem dX12_contentBy_22 : decode cX12_contentBy 22 = .ok (.iconst 5, 1) := by decide +kernel
theorem dX12_contentBy_23 : decode cX12_contentBy 23 = .ok (.iload 5, 2) := by decide +kernel
theorem dX12_contentBy_25 : decode cX12_contentBy 25 = .ok (.iadd, 1) := by decide +kernel
theorem dX12_contentBy_26 : decode cX12_contentBy 26 = .ok (.iaload, 1) := by decide +kernel
theorem dX12_contentBy_27 : decode cX12_contentBy 27 = .ok (.iload_n 1, 1) := by decide +kernel
theorem dX12_contentBy_28 : decode cX12_contentBy 28 = .ok (.iload_n 2, 1) := by decide +kernel
theorem dX12_contentBy_29 : decode cX12_contentBy 29 = .ok (.iload_n 3, 1) := by decide +kernel
theorem dX12_contentBy_30 : decode cX12_contentBy 30 = .ok (.invokevirtual 413, 3) := by decide +kernel
theorem dX12_contentBy_33 : decode cX12_contentBy 33 = .ok (.aload_n 0, 1) := by decide +kernel
theorem dX12_contentBy_34 : decode cX12_contentBy 34 = .ok (.getfield 102, 3) := by decide +kernel
theorem dX12_contentBy_37 : decode cX12_contentBy 37 = .ok (.bipush 19, 2) := by decide +kernel
theorem dX12_contentBy_39 : decode cX12_contentBy 39 = .ok (.iload 5, 2) := by decide +kernel
theorem dX12_contentBy_41 : decode cX12_contentBy 41 = .ok (.iadd, 1) := by decide +kernel
theorem dX12_contentBy_42 : decode cX12_contentBy 42 = .ok (.iaload, 1) := by decide +kernel
theorem dX12_contentBy_43 : decode cX12_contentBy 43 = .ok (.if_icmp .lt 10, 3) := by decide +kernel
theorem dX12_contentBy_46 : decode cX12_contentBy 46 = .ok (.iconst 1, 1) := by decide +kernel
theorem dX12_contentBy_47 : decode cX12_contentBy 47 = .ok (.iload 5, 2) := by decide +kernel
theorem dX12_contentBy_49 : decode cX12_contentBy 49 = .ok (.ishl, 1) := by decide +kernel
theorem dX12_contentBy_50 : decode cX12_contentBy 50 = .ok (.goto 4, 3) := by decide +kernel
theorem dX12_contentBy_53 : decode cX12_contentBy 53 = .ok (.iconst 0, 1) := by decide +kernel
theorem dX12_contentBy_54 : decode cX12_contentBy 54 = .ok (.ior, 1) := by decide +kernel
theorem dX12_contentBy_55 : decode cX12_contentBy 55 = .ok (.istore 4, 2) := by decide +kernel
theorem dX12_contentBy_57 : decode cX12_contentBy 57 = .ok (.iinc 5 1, 3) := by decide +kernel
theorem dX12_contentBy_60 : decode cX12_contentBy 60 = .ok (.goto (-54), 3) := by decide +kernel
theorem dX12_contentBy_63 : decode cX12_contentBy 63 = .ok (.iload 4, 2) := by decide +kernel
theorem dX12_contentBy_65 : decode cX12_contentBy 65 = .ok (.ireturn, 1) := by decide +kernel
theorem dX12_content_0 : decode cX12_content 0 = .ok (.aload_n 0, 1) := by decide +kernel
theorem dX12_content_1 : decode cX12_content 1 = .ok (.iconst 0, 1) := by decide +kernel
theorem dX12_content_2 : decode cX12_content 2 = .ok (.putfield 159, 3) := by decide +kernel
theorem dX12_content_5 : decode cX12_content 5 = .ok (.aload_n 0, 1) := by decide +kernel
theorem dX12_content_6 : decode cX12_content 6 = .ok (.iload_n 1, 1) := by decide +kernel
theorem dX12_content_7 : decode cX12_content 7 = .ok (.invokevirtual 448, 3) := by decide +kernel
theorem dX12_content_10 : decode cX12_content 10 = .ok (.ifCond .ne 5, 3) := by decide +kernel
theorem dX12_content_13 : decode cX12_content 13 = .ok (.iconst 0, 1) := by decide +kernel
theorem dX12_content_14 : decode cX12_content 14 = .ok (.ireturn, 1) := by decide +kernel
theorem dX12_content_15 : decode cX12_content 15 = .ok (.aload_n 0, 1) := by decide +kernel
theorem dX12_content_16 : decode cX12_content 16 = .ok (.invokevirtual 436, 3) := by decide +kernel
theorem dX12_content_19 : decode cX12_content 19 = .ok (.aload_n 0, 1) := by decide +kernel
theorem dX12_content_20 : decode cX12_content 20 = .ok (.iload_n 1, 1) := by decide +kernel
theorem dX12_content_21 : decode cX12_content 21 = .ok (.aload_n 0, 1) := by decide +kernel
theorem dX12_content_22 : decode cX12_content 22 = .ok (.iload_n 1, 1) := by decide +kernel
theorem dX12_content_23 : decode cX12_content 23 = .ok (.invokevirtual 407, 3) := by decide +kernel
theorem dX12_content_26 : decode cX12_content 26 = .ok (.bipush 31, 2) := by decide +kernel
theorem dX12_content_28 : decode cX12_content 28 = .ok (.invokevirtual 451, 3) := by decide +kernel
theorem dX12_content_31 : decode cX12_content 31 = .ok (.ireturn, 1) := by decide +kernel
theorem dX12_met_0 : decode cX12_met 0 = .ok (.aload_n 0, 1) := by decide +kernel
theorem dX12_met_1 : decode cX12_met 1 = .ok (.iconst 0, 1) := by decide +kernel
theorem dX12_met_2 : decode cX12_met 2 = .ok (.putfield 159, 3) := by decide +kernel
theorem dX12_met_5 : decode cX12_met 5 = .ok (.aload_n 0, 1) := by decide +kernel
theorem dX12_met_6 : decode cX12_met 6 = .ok (.iload_n 1, 1) := by decide +kernel
theorem dX12_met_7 : decode cX12_met 7 = .ok (.invokevirtual 424, 3) := by decide +kernel
theorem dX12_met_10 : decode cX12_met 10 = .ok (.ifCond .eq 29, 3) := by decide +kernel
theorem dX12_met_13 : decode cX12_met 13 = .ok (.aload_n 0, 1) := by decide +kernel
theorem dX12_met_14 : decode cX12_met 14 = .ok (.iload_n 2, 1) := by decide +kernel
theorem dX12_met_15 : decode cX12_met 15 = .ok (.invokevirtual 424, 3) := by decide +kernel
theorem dX12_met_18 : decode cX12_met 18 = .ok (.ifCond .eq 21, 3) := by decide +kernel
theorem dX12_met_21 : decode cX12_met 21 = .ok (.aload_n 0, 1) := by decide +kernel
theorem dX12_met_22 : decode cX12_met 22 = .ok (.iload_n 1, 1) := by decide +kernel
theorem dX12_met_23 : decode cX12_met 23 = .ok (.iload_n 2, 1) := by decide +kernel
theorem dX12_met_24 : decode cX12_met 24 = .ok (.if_icmp .eq 7, 3) := by decide +kernel
theorem dX12_met_27 : decode cX12_met 27 = .ok (.iconst 1, 1) := by decide +kernel
theorem dX12_met_28 : decode cX12_met 28 = .ok (.goto 4, 3) := by decide +kernel
theorem dX12_met_31 : decode cX12_met 31 = .ok (.iconst 0, 1) := by decide +kernel
theorem dX12_met_32 : decode cX12_met 32 = .ok (.iconst 2, 1) := by decide +kernel
theorem dX12_met_33 : decode cX12_met 33 = .ok (.invokevirtual 329, 3) := by decide +kernel
theorem dX12_met_36 : decode cX12_met 36 = .ok (.ifCond .ne 5, 3) := by decide +kernel
theorem dX12_met_39 : decode cX12_met 39 = .ok (.iconst 0, 1) := by decide +kernel
theorem dX12_met_40 : decode cX12_met 40 = .ok (.ireturn, 1) := by decide +kernel
theorem dX12_met_41 : decode cX12_met 41 = .ok (.aload_n 0, 1) := by decide +kernel
theorem dX12_met_42 : decode cX12_met 42 = .ok (.invokevirtual 436, 3) := by decide +kernel
theorem dX12_met_45 : decode cX12_met 45 = .ok (.iconst 0, 1) := by decide +kernel
theorem dX12_met_46 : decode cX12_met 46 = .ok (.istore_n 3, 1) := by decide +kernel
theorem dX12_met_47 : decode cX12_met 47 = .ok (.iload_n 3, 1) := by decide +kernel
theorem dX12_met_48 : decode cX12_met 48 = .ok (.sipush 240, 3) := by decide +kernel
theorem dX12_met_51 : decode cX12_met 51 = .ok (.if_icmp .ge 43, 3) := by decide +kernel
theorem dX12_met_54 : decode cX12_met 54 = .ok (.aload_n 0, 1) := by decide +kernel
theorem dX12_met_55 : decode cX12_met 55 = .ok (.aload_n 0, 1) := by decide +kernel
theorem dX12_met_56 : decode cX12_met 56 = .ok (.getfield 114, 3) := by decide +kernel
theorem dX12_met_59 : decode cX12_met 59 = .ok (.sipush 240, 3) := by decide +kernel
theorem dX12_met_62 : decode cX12_met 62 = .ok (.iload_n 1, 1) := by decide +kernel
theorem dX12_met_63 : decode cX12_met 63 = .ok (.imul, 1) := by decide +kernel
theorem dX12_met_64 : decode cX12_met 64 = .ok (.iload_n 3, 1) := by decide +kernel
theorem dX12_met_65 : decode cX12_met 65 = .ok (.iadd, 1) := by decide +kernel
theorem dX12_met_66 : decode cX12_met 66 = .ok (.iaload, 1) := by decide +kernel
theorem dX12_met_67 : decode cX12_met 67 = .ok (.aload_n 0, 1) := by decide +kernel
theorem dX12_met_68 : decode cX12_met 68 = .ok (.getfield 114, 3) := by decide +kernel
theorem dX12_met_71 : decode cX12_met 71 = .ok (.sipush 240, 3) := by decide +kernel
theorem dX12_met_74 : decode cX12_met 74 = .ok (.iload_n 2, 1) := by decide +kernel
theorem dX12_met_75 : decode cX12_met 75 = .ok (.imul, 1) := by decide +kernel
theorem dX12_met_76 : decode cX12_met 76 = .ok (.iload_n 3, 1) := by decide +kernel
theorem dX12_met_77 : decode cX12_met 77 = .ok (.iadd, 1) := by decide +kernel
theorem dX12_met_78 : decode cX12_met 78 = .ok (.iaload, 1) := by decide +kernel
theorem dX12_met_79 : decode cX12_met 79 = .ok (.invokevirtual 397, 3) := by decide +kernel
theorem dX12_met_82 : decode cX12_met 82 = .ok (.iconst 1, 1) := by decide +kernel
theorem dX12_met_83 : decode cX12_met 83 = .ok (.if_icmp .gt 5, 3) := by decide +kernel
theorem dX12_met_86 : decode cX12_met 86 = .ok (.iload_n 3, 1) := by decide +kernel
theorem dX12_met_87 : decode cX12_met 87 = .ok (.ireturn, 1) := by decide +kernel
theorem dX12_met_88 : decode cX12_met 88 = .ok (.iinc 3 1, 3) := by decide +kernel
theorem dX12_met_91 : decode cX12_met 91 = .ok (.goto (-44), 3) := by decide +kernel
theorem dX12_met_94 : decode cX12_met 94 = .ok (.iconst (-1), 1) := by decide +kernel
theorem dX12_met_95 : decode cX12_met 95 = .ok (.ireturn, 1) := by decide +kernel
theorem dX12_fill_0 : decode cX12_fill 0 = .ok (.aload_n 0, 1) := by decide +kernel
theorem dX12_fill_1 : decode cX12_fill 1 = .ok (.iconst 0, 1) := by decide +kernel
theorem dX12_fill_2 : decode cX12_fill 2 = .ok (.putfield 159, 3) := by decide +kernel
theorem dX12_fill_5 : decode cX12_fill 5 = .ok (.aload_n 0, 1) := by decide +kernel
theorem dX12_fill_6 : decode cX12_fill 6 = .ok (.iload_n 1, 1) := by decide +kernel
theorem dX12_fill_7 : decode cX12_fill 7 = .ok (.invokevirtual 424, 3) := by decide +kernel
theorem dX12_fill_10 : decode cX12_fill 10 = .ok (.ifCond .ne 5, 3) := by decide +kernel
theorem dX12_fill_13 : decode cX12_fill 13 = .ok (.iconst 0, 1) := by decide +kernel
theorem dX12_fill_14 : decode cX12_fill 14 = .ok (.ireturn, 1) := by decide +kernel
theorem dX12_fill_15 : decode cX12_fill 15 = .ok (.iload_n 2, 1) := by decide +kernel
theorem dX12_fill_16 : decode cX12_fill 16 = .ok (.iconst 0, 1) := by decide +kernel
theorem dX12_fill_17 : decode cX12_fill 17 = .ok (.sipush 200, 3) := by decide +kernel
theorem dX12_fill_20 : decode cX12_fill 20 = .ok (.invokestatic 420, 3) := by decide +kernel
theorem dX12_fill_23 : decode cX12_fill 23 = .ok (.ifCond .eq 14, 3) := by decide +kernel
theorem dX12_fill_26 : decode cX12_fill 26 = .ok (.aload_n 0, 1) := by decide +kernel
theorem dX12_fill_27 : decode cX12_fill 27 = .ok (.iconst 0, 1) := by decide +kernel
theorem dX12_fill_28 : decode cX12_fill 28 = .ok (.iload_n 1, 1) := by decide +kernel
theorem dX12_fill_29 : decode cX12_fill 29 = .ok (.iadd, 1) := by decide +kernel
theorem dX12_fill_30 : decode cX12_fill 30 = .ok (.iload_n 2, 1) := by decide +kernel
theorem dX12_fill_31 : decode cX12_fill 31 = .ok (.invokevirtual 454, 3) := by decide +kernel
theorem dX12_fill_34 : decode cX12_fill 34 = .ok (.goto 8, 3) := by decide +kernel
theorem dX12_fill_37 : decode cX12_fill 37 = .ok (.aload_n 0, 1) := by decide +kernel
theorem dX12_fill_38 : decode cX12_fill 38 = .ok (.iconst 1, 1) := by decide +kernel
theorem dX12_fill_39 : decode cX12_fill 39 = .ok (.invokevirtual 457, 3) := by decide +kernel
theorem dX12_fill_42 : decode cX12_fill 42 = .ok (.ireturn, 1) := by decide +kernel
theorem dX12_isFree_0 : decode cX12_isFree 0 = .ok (.iload_n 1, 1) := by decide +kernel
theorem dX12_isFree_1 : decode cX12_isFree 1 = .ok (.ifCond .lt 20, 3) := by decide +kernel
theorem dX12_isFree_4 : decode cX12_isFree 4 = .ok (.iload_n 1, 1) := by decide +kernel
theorem dX12_isFree_5 : decode cX12_isFree 5 = .ok (.aload_n 0, 1) := by decide +kernel
theorem dX12_isFree_6 : decode cX12_isFree 6 = .ok (.invokevirtual 460, 3) := by decide +kernel
theorem dX12_isFree_9 : decode cX12_isFree 9 = .ok (.if_icmp .ge 12, 3) := by decide +kernel
theorem dX12_isFree_12 : decode cX12_isFree 12 = .ok (.aload_n 0, 1) := by decide +kernel
theorem dX12_isFree_13 : decode cX12_isFree 13 = .ok (.getfield 47, 3) := by decide +kernel
theorem dX12_isFree_16 : decode cX12_isFree 16 = .ok (.iload_n 1, 1) := by decide +kernel
theorem dX12_isFree_17 : decode cX12_isFree 17 = .ok (.baload, 1) := by decide +kernel
theorem dX12_isFree_18 : decode cX12_isFree 18 = .ok (.ifCond .eq 5, 3) := by decide +kernel
theorem dX12_isFree_21 : decode cX12_isFree 21 = .ok (.iconst 0, 1) := by decide +kernel
theorem dX12_isFree_22 : decode cX12_isFree 22 = .ok (.ireturn, 1) := by decide +kernel
theorem dX12_isFree_23 : decode cX12_isFree 23 = .ok (.iconst 0, 1) := by decide +kernel
theorem dX12_isFree_24 : decode cX12_isFree 24 = .ok (.istore 5, 2) := by decide +kernel
theorem dX12_isFree_26 : decode cX12_isFree 26 = .ok (.iload 5, 2) := by decide +kernel
theorem dX12_isFree_28 : decode cX12_isFree 28 = .ok (.iload_n 3, 1) := by decide +kernel
theorem dX12_isFree_29 : decode cX12_isFree 29 = .ok (.if_icmp .ge 31, 3) := by decide +kernel
theorem dX12_isFree_32 : decode cX12_isFree 32 = .ok (.iload 5, 2) := by decide +kernel
theorem dX12_isFree_34 : decode cX12_isFree 34 = .ok (.iload 4, 2) := by decide +kernel
theorem dX12_isFree_36 : decode cX12_isFree 36 = .ok (.if_icmp .eq 18, 3) := by decide +kernel
theorem dX12_isFree_39 : decode cX12_isFree 39 = .ok (.aload_n 0, 1) := by decide +kernel
theorem dX12_isFree_40 : decode cX12_isFree 40 = .ok (.getfield 102, 3) := by decide +kernel
theorem dX12_isFree_43 : decode cX12_isFree 43 = .ok (.iload_n 2, 1) := by decide +kernel
theorem dX12_isFree_44 : decode cX12_isFree 44 = .ok (.iload 5, 2) := by decide +kernel
theorem dX12_isFree_46 : decode cX12_isFree 46 = .ok (.iadd, 1) := by decide +kernel
theorem dX12_isFree_47 : decode cX12_isFree 47 = .ok (.iaload, 1) := by decide +kernel
theorem dX12_isFree_48 : decode cX12_isFree 48 = .ok (.iload_n 1, 1) := by decide +kernel
theorem dX12_isFree_49 : decode cX12_isFree 49 = .ok (.if_icmp .ne 5, 3) := by decide +kernel
theorem dX12_isFree_52 : decode cX12_isFree 52 = .ok (.iconst 0, 1) := by decide +kernel
theorem dX12_isFree_53 : decode cX12_isFree 53 = .ok (.ireturn, 1) := by decide +kernel
theorem dX12_isFree_54 : decode cX12_isFree 54 = .ok (.iinc 5 1, 3) := by decide +kernel
theorem dX12_isFree_57 : decode cX12_isFree 57 = .ok (.goto (-31), 3) := by decide +kernel
theorem dX12_isFree_60 : decode cX12_isFree 60 = .ok (.iconst 1, 1) := by decide +kernel
theorem dX12_isFree_61 : decode cX12_isFree 61 = .ok (.ireturn, 1) := by decide +kernel
theorem dX12_moor_0 : decode cX12_moor 0 = .ok (.aload_n 0, 1) := by decide +kernel
theorem dX12_moor_1 : decode cX12_moor 1 = .ok (.iconst 0, 1) := by decide +kernel
theorem dX12_moor_2 : decode cX12_moor 2 = .ok (.putfield 159, 3) := by decide +kernel
theorem dX12_moor_5 : decode cX12_moor 5 = .ok (.aload_n 0, 1) := by decide +kernel
theorem dX12_moor_6 : decode cX12_moor 6 = .ok (.iload_n 1, 1) := by decide +kernel
theorem dX12_moor_7 : decode cX12_moor 7 = .ok (.invokevirtual 433, 3) := by decide +kernel
theorem dX12_moor_10 : decode cX12_moor 10 = .ok (.ifCond .ne 5, 3) := by decide +kernel
theorem dX12_moor_13 : decode cX12_moor 13 = .ok (.iconst 0, 1) := by decide +kernel
theorem dX12_moor_14 : decode cX12_moor 14 = .ok (.ireturn, 1) := by decide +kernel
theorem dX12_moor_15 : decode cX12_moor 15 = .ok (.aload_n 0, 1) := by decide +kernel
theorem dX12_moor_16 : decode cX12_moor 16 = .ok (.iload_n 2, 1) := by decide +kernel
theorem dX12_moor_17 : decode cX12_moor 17 = .ok (.iconst 5, 1) := by decide +kernel
theorem dX12_moor_18 : decode cX12_moor 18 = .ok (.aload_n 0, 1) := by decide +kernel
theorem dX12_moor_19 : decode cX12_moor 19 = .ok (.getfield 342, 3) := by decide +kernel
theorem dX12_moor_22 : decode cX12_moor 22 = .ok (.iload_n 1, 1) := by decide +kernel
theorem dX12_moor_23 : decode cX12_moor 23 = .ok (.invokevirtual 463, 3) := by decide +kernel
theorem dX12_moor_26 : decode cX12_moor 26 = .ok (.ifCond .eq 14, 3) := by decide +kernel
theorem dX12_moor_29 : decode cX12_moor 29 = .ok (.aload_n 0, 1) := by decide +kernel
theorem dX12_moor_30 : decode cX12_moor 30 = .ok (.iconst 5, 1) := by decide +kernel
theorem dX12_moor_31 : decode cX12_moor 31 = .ok (.iload_n 1, 1) := by decide +kernel
theorem dX12_moor_32 : decode cX12_moor 32 = .ok (.iadd, 1) := by decide +kernel
theorem dX12_moor_33 : decode cX12_moor 33 = .ok (.iload_n 2, 1) := by decide +kernel
theorem dX12_moor_34 : decode cX12_moor 34 = .ok (.invokevirtual 454, 3) := by decide +kernel
theorem dX12_moor_37 : decode cX12_moor 37 = .ok (.goto 8, 3) := by decide +kernel
theorem dX12_moor_40 : decode cX12_moor 40 = .ok (.aload_n 0, 1) := by decide +kernel
theorem dX12_moor_41 : decode cX12_moor 41 = .ok (.iconst 1, 1) := by decide +kernel
theorem dX12_moor_42 : decode cX12_moor 42 = .ok (.invokevirtual 457, 3) := by decide +kernel
theorem dX12_moor_45 : decode cX12_moor 45 = .ok (.ireturn, 1) := by decide +kernel
theorem dX12_push_0 : decode cX12_push 0 = .ok (.aload_n 0, 1) := by decide +kernel
theorem dX12_push_1 : decode cX12_push 1 = .ok (.iconst 0, 1) := by decide +kernel
theorem dX12_push_2 : decode cX12_push 2 = .ok (.putfield 159, 3) := by decide +kernel
theorem dX12_push_5 : decode cX12_push 5 = .ok (.aload_n 0, 1) := by decide +kernel
theorem dX12_push_6 : decode cX12_push 6 = .ok (.iload_n 1, 1) := by decide +kernel
theorem dX12_push_7 : decode cX12_push 7 = .ok (.invokevirtual 424, 3) := by decide +kernel
theorem dX12_push_10 : decode cX12_push 10 = .ok (.ifCond .ne 5, 3) := by decide +kernel
theorem dX12_push_13 : decode cX12_push 13 = .ok (.iconst 0, 1) := by decide +kernel
theorem dX12_push_14 : decode cX12_push 14 = .ok (.ireturn, 1) := by decide +kernel
theorem dX12_push_15 : decode cX12_push 15 = .ok (.aload_n 0, 1) := by decide +kernel
theorem dX12_push_16 : decode cX12_push 16 = .ok (.iload_n 2, 1) := by decide +kernel
theorem dX12_push_17 : decode cX12_push 17 = .ok (.bipush 13, 2) := by decide +kernel
theorem dX12_push_19 : decode cX12_push 19 = .ok (.aload_n 0, 1) := by decide +kernel
theorem dX12_push_20 : decode cX12_push 20 = .ok (.getfield 339, 3) := by decide +kernel
theorem dX12_push_23 : decode cX12_push 23 = .ok (.iload_n 1, 1) := by decide +kernel
theorem dX12_push_24 : decode cX12_push 24 = .ok (.invokevirtual 463, 3) := by decide +kernel
theorem dX12_push_27 : decode cX12_push 27 = .ok (.ifCond .eq 15, 3) := by decide +kernel
theorem dX12_push_30 : decode cX12_push 30 = .ok (.aload_n 0, 1) := by decide +kernel
theorem dX12_push_31 : decode cX12_push 31 = .ok (.bipush 13, 2) := by decide +kernel
theorem dX12_push_33 : decode cX12_push 33 = .ok (.iload_n 1, 1) := by decide +kernel
theorem dX12_push_34 : decode cX12_push 34 = .ok (.iadd, 1) := by decide +kernel
theorem dX12_push_35 : decode cX12_push 35 = .ok (.iload_n 2, 1) := by decide +kernel
theorem dX12_push_36 : decode cX12_push 36 = .ok (.invokevirtual 454, 3) := by decide +kernel
theorem dX12_push_39 : decode cX12_push 39 = .ok (.goto 8, 3) := by decide +kernel
theorem dX12_push_42 : decode cX12_push 42 = .ok (.aload_n 0, 1) := by decide +kernel
theorem dX12_push_43 : decode cX12_push 43 = .ok (.iconst 1, 1) := by decide +kernel
theorem dX12_push_44 : decode cX12_push 44 = .ok (.invokevirtual 457, 3) := by decide +kernel
theorem dX12_push_47 : decode cX12_push 47 = .ok (.ireturn, 1) := by decide +kernel
theorem dX12_obey_0 : decode cX12_obey 0 = .ok (.aload_n 0, 1) := by decide +kernel
theorem dX12_obey_1 : decode cX12_obey 1 = .ok (.iconst 0, 1) := by decide +kernel
theorem dX12_obey_2 : decode cX12_obey 2 = .ok (.putfield 159, 3) := by decide +kernel
theorem dX12_obey_5 : decode cX12_obey 5 = .ok (.iload_n 1, 1) := by decide +kernel
theorem dX12_obey_6 : decode cX12_obey 6 = .ok (.iconst (-1), 1) := by decide +kernel
theorem dX12_obey_7 : decode cX12_obey 7 = .ok (.if_icmp .lt 11, 3) := by decide +kernel
theorem dX12_obey_10 : decode cX12_obey 10 = .ok (.iload_n 1, 1) := by decide +kernel
theorem dX12_obey_11 : decode cX12_obey 11 = .ok (.aload_n 0, 1) := by decide +kernel
theorem dX12_obey_12 : decode cX12_obey 12 = .ok (.getfield 348, 3) := by decide +kernel
theorem dX12_obey_15 : decode cX12_obey 15 = .ok (.if_icmp .lt 17, 3) := by decide +kernel
theorem dX12_obey_18 : decode cX12_obey 18 = .ok (.aload_n 0, 1) := by decide +kernel
theorem dX12_obey_19 : decode cX12_obey 19 = .ok (.iconst 1, 1) := by decide +kernel
theorem dX12_obey_20 : decode cX12_obey 20 = .ok (.invokevirtual 457, 3) := by decide +kernel
theorem dX12_obey_23 : decode cX12_obey 23 = .ok (.ifCond .le 7, 3) := by decide +kernel
theorem dX12_obey_26 : decode cX12_obey 26 = .ok (.iconst 1, 1) := by decide +kernel
theorem dX12_obey_27 : decode cX12_obey 27 = .ok (.goto 4, 3) := by decide +kernel
theorem dX12_obey_30 : decode cX12_obey 30 = .ok (.iconst 0, 1) := by decide +kernel
theorem dX12_obey_31 : decode cX12_obey 31 = .ok (.ireturn, 1) := by decide +kernel
theorem dX12_obey_32 : decode cX12_obey 32 = .ok (.aload_n 0, 1) := by decide +kernel
theorem dX12_obey_33 : decode cX12_obey 33 = .ok (.bipush 18, 2) := by decide +kernel
theorem dX12_obey_35 : decode cX12_obey 35 = .ok (.iload_n 1, 1) := by decide +kernel
theorem dX12_obey_36 : decode cX12_obey 36 = .ok (.invokevirtual 454, 3) := by decide +kernel
theorem dX12_obey_39 : decode cX12_obey 39 = .ok (.pop, 1) := by decide +kernel
theorem dX12_obey_40 : decode cX12_obey 40 = .ok (.iconst 1, 1) := by decide +kernel
theorem dX12_obey_41 : decode cX12_obey 41 = .ok (.ireturn, 1) := by decide +kernel
theorem dX12_want_0 : decode cX12_want 0 = .ok (.aload_n 0, 1) := by decide +kernel
theorem dX12_want_1 : decode cX12_want 1 = .ok (.iconst 0, 1) := by decide +kernel
theorem dX12_want_2 : decode cX12_want 2 = .ok (.putfield 159, 3) := by decide +kernel
theorem dX12_want_5 : decode cX12_want 5 = .ok (.aload_n 0, 1) := by decide +kernel
theorem dX12_want_6 : decode cX12_want 6 = .ok (.iload_n 1, 1) := by decide +kernel
theorem dX12_want_7 : decode cX12_want 7 = .ok (.invokevirtual 433, 3) := by decide +kernel
theorem dX12_want_10 : decode cX12_want 10 = .ok (.ifCond .ne 5, 3) := by decide +kernel
theorem dX12_want_13 : decode cX12_want 13 = .ok (.iconst 0, 1) := by decide +kernel
theorem dX12_want_14 : decode cX12_want 14 = .ok (.ireturn, 1) := by decide +kernel
theorem dX12_want_15 : decode cX12_want 15 = .ok (.iload_n 2, 1) := by decide +kernel
theorem dX12_want_16 : decode cX12_want 16 = .ok (.iconst 0, 1) := by decide +kernel
theorem dX12_want_17 : decode cX12_want 17 = .ok (.bipush 12, 2) := by decide +kernel
theorem dX12_want_19 : decode cX12_want 19 = .ok (.invokestatic 420, 3) := by decide +kernel
theorem dX12_want_22 : decode cX12_want 22 = .ok (.ifCond .eq 15, 3) := by decide +kernel
theorem dX12_want_25 : decode cX12_want 25 = .ok (.aload_n 0, 1) := by decide +kernel
theorem dX12_want_26 : decode cX12_want 26 = .ok (.bipush 19, 2) := by decide +kernel
theorem dX12_want_28 : decode cX12_want 28 = .ok (.iload_n 1, 1) := by decide +kernel
theorem dX12_want_29 : decode cX12_want 29 = .ok (.iadd, 1) := by decide +kernel
theorem dX12_want_30 : decode cX12_want 30 = .ok (.iload_n 2, 1) := by decide +kernel
theorem dX12_want_31 : decode cX12_want 31 = .ok (.invokevirtual 454, 3) := by decide +kernel
theorem dX12_want_34 : decode cX12_want 34 = .ok (.goto 8, 3) := by decide +kernel
theorem dX12_want_37 : decode cX12_want 37 = .ok (.aload_n 0, 1) := by decide +kernel
theorem dX12_want_38 : decode cX12_want 38 = .ok (.iconst 1, 1) := by decide +kernel
theorem dX12_want_39 : decode cX12_want 39 = .ok (.invokevirtual 457, 3) := by decide +kernel
theorem dX12_want_42 : decode cX12_want 42 = .ok (.ireturn, 1) := by decide +kernel
theorem dX12_lamps_0 : decode cX12_lamps 0 = .ok (.aload_n 0, 1) := by decide +kernel
theorem dX12_lamps_1 : decode cX12_lamps 1 = .ok (.iconst 0, 1) := by decide +kernel
theorem dX12_lamps_2 : decode cX12_lamps 2 = .ok (.putfield 159, 3) := by decide +kernel
theorem dX12_lamps_5 : decode cX12_lamps 5 = .ok (.aload_n 0, 1) := by decide +kernel
theorem dX12_lamps_6 : decode cX12_lamps 6 = .ok (.iload_n 1, 1) := by decide +kernel
theorem dX12_lamps_7 : decode cX12_lamps 7 = .ok (.invokevirtual 448, 3) := by decide +kernel
theorem dX12_lamps_10 : decode cX12_lamps 10 = .ok (.ifCond .ne 5, 3) := by decide +kernel
theorem dX12_lamps_13 : decode cX12_lamps 13 = .ok (.iconst 0, 1) := by decide +kernel
theorem dX12_lamps_14 : decode cX12_lamps 14 = .ok (.ireturn, 1) := by decide +kernel
theorem dX12_lamps_15 : decode cX12_lamps 15 = .ok (.aload_n 0, 1) := by decide +kernel
theorem dX12_lamps_16 : decode cX12_lamps 16 = .ok (.invokevirtual 436, 3) := by decide +kernel
theorem dX12_lamps_19 : decode cX12_lamps 19 = .ok (.aload_n 0, 1) := by decide +kernel
theorem dX12_lamps_20 : decode cX12_lamps 20 = .ok (.iload_n 1, 1) := by decide +kernel
theorem dX12_lamps_21 : decode cX12_lamps 21 = .ok (.invokevirtual 407, 3) := by decide +kernel
theorem dX12_lamps_24 : decode cX12_lamps 24 = .ok (.istore_n 2, 1) := by decide +kernel
theorem dX12_lamps_25 : decode cX12_lamps 25 = .ok (.aload_n 0, 1) := by decide +kernel
theorem dX12_lamps_26 : decode cX12_lamps 26 = .ok (.iload_n 1, 1) := by decide +kernel
theorem dX12_lamps_27 : decode cX12_lamps 27 = .ok (.iload_n 2, 1) := by decide +kernel
theorem dX12_lamps_28 : decode cX12_lamps 28 = .ok (.bipush 31, 2) := by decide +kernel
theorem dX12_lamps_30 : decode cX12_lamps 30 = .ok (.invokevirtual 451, 3) := by decide +kernel
theorem dX12_lamps_33 : decode cX12_lamps 33 = .ok (.istore_n 3, 1) := by decide +kernel
theorem dX12_lamps_34 : decode cX12_lamps 34 = .ok (.iconst (-1), 1) := by decide +kernel
theorem dX12_lamps_35 : decode cX12_lamps 35 = .ok (.istore 4, 2) := by decide +kernel
theorem dX12_lamps_37 : decode cX12_lamps 37 = .ok (.iconst 0, 1) := by decide +kernel
theorem dX12_lamps_38 : decode cX12_lamps 38 = .ok (.istore 5, 2) := by decide +kernel
theorem dX12_lamps_40 : decode cX12_lamps 40 = .ok (.iload 5, 2) := by decide +kernel
theorem dX12_lamps_42 : decode cX12_lamps 42 = .ok (.iconst 1, 1) := by decide +kernel
theorem dX12_lamps_43 : decode cX12_lamps 43 = .ok (.aload_n 0, 1) := by decide +kernel
theorem dX12_lamps_44 : decode cX12_lamps 44 = .ok (.getfield 339, 3) := by decide +kernel
theorem dX12_lamps_47 : decode cX12_lamps 47 = .ok (.ishl, 1) := by decide +kernel
theorem dX12_lamps_48 : decode cX12_lamps 48 = .ok (.if_icmp .ge 46, 3) := by decide +kernel
theorem dX12_lamps_51 : decode cX12_lamps 51 = .ok (.iload 4, 2) := by decide +kernel
theorem dX12_lamps_53 : decode cX12_lamps 53 = .ok (.iconst (-1), 1) := by decide +kernel
theorem dX12_lamps_54 : decode cX12_lamps 54 = .ok (.if_icmp .eq 16, 3) := by decide +kernel
theorem dX12_lamps_57 : decode cX12_lamps 57 = .ok (.iload 5, 2) := by decide +kernel
theorem dX12_lamps_59 : decode cX12_lamps 59 = .ok (.invokestatic 466, 3) := by decide +kernel
theorem dX12_lamps_62 : decode cX12_lamps 62 = .ok (.iload 4, 2) := by decide +kernel
theorem dX12_lamps_64 : decode cX12_lamps 64 = .ok (.invokestatic 466, 3) := by decide +kernel
theorem dX12_lamps_67 : decode cX12_lamps 67 = .ok (.if_icmp .ge 21, 3) := by decide +kernel
theorem dX12_lamps_70 : decode cX12_lamps 70 = .ok (.aload_n 0, 1) := by decide +kernel
theorem dX12_lamps_71 : decode cX12_lamps 71 = .ok (.iload_n 1, 1) := by decide +kernel
theorem dX12_lamps_72 : decode cX12_lamps 72 = .ok (.iload_n 2, 1) := by decide +kernel
theorem dX12_lamps_73 : decode cX12_lamps 73 = .ok (.iload 5, 2) := by decide +kernel
theorem dX12_lamps_75 : decode cX12_lamps 75 = .ok (.invokevirtual 451, 3) := by decide +kernel
theorem dX12_lamps_78 : decode cX12_lamps 78 = .ok (.iload_n 3, 1) := by decide +kernel
theorem dX12_lamps_79 : decode cX12_lamps 79 = .ok (.iand, 1) := by decide +kernel
theorem dX12_lamps_80 : decode cX12_lamps 80 = .ok (.iload_n 3, 1) := by decide +kernel
theorem dX12_lamps_81 : decode cX12_lamps 81 = .ok (.if_icmp .ne 7, 3) := by decide +kernel
theorem dX12_lamps_84 : decode cX12_lamps 84 = .ok (.iload 5, 2) := by decide +kernel
theorem dX12_lamps_86 : decode cX12_lamps 86 = .ok (.istore 4, 2) := by decide +kernel
theorem dX12_lamps_88 : decode cX12_lamps 88 = .ok (.iinc 5 1, 3) := by decide +kernel
theorem dX12_lamps_91 : decode cX12_lamps 91 = .ok (.goto (-51), 3) := by decide +kernel
theorem dX12_lamps_94 : decode cX12_lamps 94 = .ok (.iload 4, 2) := by decide +kernel
theorem dX12_lamps_96 : decode cX12_lamps 96 = .ok (.ireturn, 1) := by decide +kernel
theorem dX12_findsDiffers_0 : decode cX12_findsDiffers 0 = .ok (.iconst 0, 1) := by decide +kernel
theorem dX12_findsDiffers_1 : decode cX12_findsDiffers 1 = .ok (.istore_n 2, 1) := by decide +kernel
theorem dX12_findsDiffers_2 : decode cX12_findsDiffers 2 = .ok (.iload_n 2, 1) := by decide +kernel
theorem dX12_findsDiffers_3 : decode cX12_findsDiffers 3 = .ok (.aload_n 0, 1) := by decide +kernel
theorem dX12_findsDiffers_4 : decode cX12_findsDiffers 4 = .ok (.getfield 339, 3) := by decide +kernel
theorem dX12_findsDiffers_7 : decode cX12_findsDiffers 7 = .ok (.if_icmp .ge 16, 3) := by decide +kernel
theorem dX12_findsDiffers_10 : decode cX12_findsDiffers 10 = .ok (.aload_n 0, 1) := by decide +kernel
theorem dX12_findsDiffers_11 : decode cX12_findsDiffers 11 = .ok (.getfield 126, 3) := by decide +kernel
theorem dX12_findsDiffers_14 : decode cX12_findsDiffers 14 = .ok (.iload_n 2, 1) := by decide +kernel
theorem dX12_findsDiffers_15 : decode cX12_findsDiffers 15 = .ok (.iconst 0, 1) := by decide +kernel
theorem dX12_findsDiffers_16 : decode cX12_findsDiffers 16 = .ok (.iastore, 1) := by decide +kernel
theorem dX12_findsDiffers_17 : decode cX12_findsDiffers 17 = .ok (.iinc 2 1, 3) := by decide +kernel
theorem dX12_findsDiffers_20 : decode cX12_findsDiffers 20 = .ok (.goto (-18), 3) := by decide +kernel
theorem dX12_findsDiffers_23 : decode cX12_findsDiffers 23 = .ok (.iconst 0, 1) := by decide +kernel
theorem dX12_findsDiffers_24 : decode cX12_findsDiffers 24 = .ok (.istore_n 2, 1) := by decide +kernel
theorem dX12_findsDiffers_25 : decode cX12_findsDiffers 25 = .ok (.iload_n 2, 1) := by decide +kernel
theorem dX12_findsDiffers_26 : decode cX12_findsDiffers 26 = .ok (.aload_n 0, 1) := by decide +kernel
theorem dX12_findsDiffers_27 : decode cX12_findsDiffers 27 = .ok (.getfield 342, 3) := by decide +kernel
theorem dX12_findsDiffers_30 : decode cX12_findsDiffers 30 = .ok (.if_icmp .ge 87, 3) := by decide +kernel
theorem dX12_findsDiffers_33 : decode cX12_findsDiffers 33 = .ok (.bipush 24, 2) := by decide +kernel
theorem dX12_findsDiffers_35 : decode cX12_findsDiffers 35 = .ok (.iload_n 1, 1) := by decide +kernel
theorem dX12_findsDiffers_36 : decode cX12_findsDiffers 36 = .ok (.imul, 1) := by decide +kernel
theorem dX12_findsDiffers_37 : decode cX12_findsDiffers 37 = .ok (.istore_n 3, 1) := by decide +kernel
theorem dX12_findsDiffers_38 : decode cX12_findsDiffers 38 = .ok (.iload_n 3, 1) := by decide +kernel
theorem dX12_findsDiffers_39 : decode cX12_findsDiffers 39 = .ok (.bipush 24, 2) := by decide +kernel
theorem dX12_findsDiffers_41 : decode cX12_findsDiffers 41 = .ok (.iload_n 1, 1) := by decide +kernel
theorem dX12_findsDiffers_42 : decode cX12_findsDiffers 42 = .ok (.imul, 1) := by decide +kernel
theorem dX12_findsDiffers_43 : decode cX12_findsDiffers 43 = .ok (.bipush 24, 2) := by decide +kernel
theorem dX12_findsDiffers_45 : decode cX12_findsDiffers 45 = .ok (.iadd, 1) := by decide +kernel
theorem dX12_findsDiffers_46 : decode cX12_findsDiffers 46 = .ok (.if_icmp .ge 65, 3) := by decide +kernel
theorem dX12_findsDiffers_49 : decode cX12_findsDiffers 49 = .ok (.aload_n 0, 1) := by decide +kernel
theorem dX12_findsDiffers_50 : decode cX12_findsDiffers 50 = .ok (.iload_n 2, 1) := by decide +kernel
theorem dX12_findsDiffers_51 : decode cX12_findsDiffers 51 = .ok (.iload_n 3, 1) := by decide +kernel
theorem dX12_findsDiffers_52 : decode cX12_findsDiffers 52 = .ok (.invokevirtual 430, 3) := by decide +kernel
theorem dX12_findsDiffers_55 : decode cX12_findsDiffers 55 = .ok (.istore 4, 2) := by decide +kernel
theorem dX12_findsDiffers_57 : decode cX12_findsDiffers 57 = .ok (.iconst 0, 1) := by decide +kernel
theorem dX12_findsDiffers_58 : decode cX12_findsDiffers 58 = .ok (.istore 5, 2) := by decide +kernel
theorem dX12_findsDiffers_60 : decode cX12_findsDiffers 60 = .ok (.iload 5, 2) := by decide +kernel
theorem dX12_findsDiffers_62 : decode cX12_findsDiffers 62 = .ok (.aload_n 0, 1) := by decide +kernel
theorem dX12_findsDiffers_63 : decode cX12_findsDiffers 63 = .ok (.getfield 339, 3) := by decide +kernel
theorem dX12_findsDiffers_66 : decode cX12_findsDiffers 66 = .ok (.if_icmp .ge 39, 3) := by decide +kernel
theorem dX12_findsDiffers_69 : decode cX12_findsDiffers 69 = .ok (.iload 4, 2) := by decide +kernel
theorem dX12_findsDiffers_71 : decode cX12_findsDiffers 71 = .ok (.iload 5, 2) := by decide +kernel
theorem dX12_findsDiffers_73 : decode cX12_findsDiffers 73 = .ok (.ishr, 1) := by decide +kernel
theorem dX12_findsDiffers_74 : decode cX12_findsDiffers 74 = .ok (.iconst 1, 1) := by decide +kernel
theorem dX12_findsDiffers_75 : decode cX12_findsDiffers 75 = .ok (.iand, 1) := by decide +kernel
theorem dX12_findsDiffers_76 : decode cX12_findsDiffers 76 = .ok (.iconst 1, 1) := by decide +kernel
theorem dX12_findsDiffers_77 : decode cX12_findsDiffers 77 = .ok (.if_icmp .ne 22, 3) := by decide +kernel
theorem dX12_findsDiffers_80 : decode cX12_findsDiffers 80 = .ok (.aload_n 0, 1) := by decide +kernel
theorem dX12_findsDiffers_81 : decode cX12_findsDiffers 81 = .ok (.getfield 126, 3) := by decide +kernel
theorem dX12_findsDiffers_84 : decode cX12_findsDiffers 84 = .ok (.iload 5, 2) := by decide +kernel
theorem dX12_findsDiffers_86 : decode cX12_findsDiffers 86 = .ok (.dup2, 1) := by decide +kernel
theorem dX12_findsDiffers_87 : decode cX12_findsDiffers 87 = .ok (.iaload, 1) := by decide +kernel
theorem dX12_findsDiffers_88 : decode cX12_findsDiffers 88 = .ok (.iload 4, 2) := by decide +kernel
theorem dX12_findsDiffers_90 : decode cX12_findsDiffers 90 = .ok (.iconst 1, 1) := by decide +kernel
theorem dX12_findsDiffers_91 : decode cX12_findsDiffers 91 = .ok (.iload 5, 2) := by decide +kernel
theorem dX12_findsDiffers_93 : decode cX12_findsDiffers 93 = .ok (.ishl, 1) := by decide +kernel
theorem dX12_findsDiffers_94 : decode cX12_findsDiffers 94 = .ok (.iconst (-1), 1) := by decide +kernel
theorem dX12_findsDiffers_95 : decode cX12_findsDiffers 95 = .ok (.ixor, 1) := by decide +kernel
theorem dX12_findsDiffers_96 : decode cX12_findsDiffers 96 = .ok (.iand, 1) := by decide +kernel
theorem dX12_findsDiffers_97 : decode cX12_findsDiffers 97 = .ok (.ior, 1) := by decide +kernel
theorem dX12_findsDiffers_98 : decode cX12_findsDiffers 98 = .ok (.iastore, 1) := by decide +kernel
theorem dX12_findsDiffers_99 : decode cX12_findsDiffers 99 = .ok (.iinc 5 1, 3) := by decide +kernel
theorem dX12_findsDiffers_102 : decode cX12_findsDiffers 102 = .ok (.goto (-42), 3) := by decide +kernel
theorem dX12_findsDiffers_105 : decode cX12_findsDiffers 105 = .ok (.iinc 3 1, 3) := by decide +kernel
theorem dX12_findsDiffers_108 : decode cX12_findsDiffers 108 = .ok (.goto (-70), 3) := by decide +kernel
theorem dX12_findsDiffers_111 : decode cX12_findsDiffers 111 = .ok (.iinc 2 1, 3) := by decide +kernel
theorem dX12_findsDiffers_114 : decode cX12_findsDiffers 114 = .ok (.goto (-89), 3) := by decide +kernel
theorem dX12_findsDiffers_117 : decode cX12_findsDiffers 117 = .ok (.return_, 1) := by decide +kernel
theorem dX12_isEnough_0 : decode cX12_isEnough 0 = .ok (.iconst 1, 1) := by decide +kernel
theorem dX12_isEnough_1 : decode cX12_isEnough 1 = .ok (.istore_n 2, 1) := by decide +kernel
theorem dX12_isEnough_2 : decode cX12_isEnough 2 = .ok (.iconst 0, 1) := by decide +kernel
theorem dX12_isEnough_3 : decode cX12_isEnough 3 = .ok (.istore_n 3, 1) := by decide +kernel
theorem dX12_isEnough_4 : decode cX12_isEnough 4 = .ok (.iload_n 3, 1) := by decide +kernel
theorem dX12_isEnough_5 : decode cX12_isEnough 5 = .ok (.aload_n 0, 1) := by decide +kernel
theorem dX12_isEnough_6 : decode cX12_isEnough 6 = .ok (.getfield 339, 3) := by decide +kernel
theorem dX12_isEnough_9 : decode cX12_isEnough 9 = .ok (.if_icmp .ge 13, 3) := by decide +kernel
theorem dX12_isEnough_12 : decode cX12_isEnough 12 = .ok (.iload_n 2, 1) := by decide +kernel
theorem dX12_isEnough_13 : decode cX12_isEnough 13 = .ok (.iload_n 1, 1) := by decide +kernel
theorem dX12_isEnough_14 : decode cX12_isEnough 14 = .ok (.imul, 1) := by decide +kernel
theorem dX12_isEnough_15 : decode cX12_isEnough 15 = .ok (.istore_n 2, 1) := by decide +kernel
theorem dX12_isEnough_16 : decode cX12_isEnough 16 = .ok (.iinc 3 1, 3) := by decide +kernel
theorem dX12_isEnough_19 : decode cX12_isEnough 19 = .ok (.goto (-15), 3) := by decide +kernel
theorem dX12_isEnough_22 : decode cX12_isEnough 22 = .ok (.iconst 0, 1) := by decide +kernel
theorem dX12_isEnough_23 : decode cX12_isEnough 23 = .ok (.istore_n 3, 1) := by decide +kernel
theorem dX12_isEnough_24 : decode cX12_isEnough 24 = .ok (.iload_n 3, 1) := by decide +kernel
theorem dX12_isEnough_25 : decode cX12_isEnough 25 = .ok (.iload_n 2, 1) := by decide +kernel
theorem dX12_isEnough_26 : decode cX12_isEnough 26 = .ok (.if_icmp .ge 117, 3) := by decide +kernel
theorem dX12_isEnough_29 : decode cX12_isEnough 29 = .ok (.iload_n 3, 1) := by decide +kernel
theorem dX12_isEnough_30 : decode cX12_isEnough 30 = .ok (.istore 4, 2) := by decide +kernel
theorem dX12_isEnough_32 : decode cX12_isEnough 32 = .ok (.iconst 1, 1) := by decide +kernel
theorem dX12_isEnough_33 : decode cX12_isEnough 33 = .ok (.istore 5, 2) := by decide +kernel
theorem dX12_isEnough_35 : decode cX12_isEnough 35 = .ok (.iconst 0, 1) := by decide +kernel
theorem dX12_isEnough_36 : decode cX12_isEnough 36 = .ok (.istore 6, 2) := by decide +kernel
theorem dX12_isEnough_38 : decode cX12_isEnough 38 = .ok (.iload 6, 2) := by decide +kernel
theorem dX12_isEnough_40 : decode cX12_isEnough 40 = .ok (.aload_n 0, 1) := by decide +kernel
theorem dX12_isEnough_41 : decode cX12_isEnough 41 = .ok (.getfield 339, 3) := by decide +kernel
theorem dX12_isEnough_44 : decode cX12_isEnough 44 = .ok (.if_icmp .ge 86, 3) := by decide +kernel
theorem dX12_isEnough_47 : decode cX12_isEnough 47 = .ok (.aload_n 0, 1) := by decide +kernel
theorem dX12_isEnough_48 : decode cX12_isEnough 48 = .ok (.getfield 129, 3) := by decide +kernel
theorem dX12_isEnough_51 : decode cX12_isEnough 51 = .ok (.iload 6, 2) := by decide +kernel
theorem dX12_isEnough_53 : decode cX12_isEnough 53 = .ok (.iload 4, 2) := by decide +kernel
theorem dX12_isEnough_55 : decode cX12_isEnough 55 = .ok (.iload_n 1, 1) := by decide +kernel
theorem dX12_isEnough_56 : decode cX12_isEnough 56 = .ok (.irem, 1) := by decide +kernel
theorem dX12_isEnough_57 : decode cX12_isEnough 57 = .ok (.iastore, 1) := by decide +kernel
theorem dX12_isEnough_58 : decode cX12_isEnough 58 = .ok (.iload 4, 2) := by decide +kernel
theorem dX12_isEnough_60 : decode cX12_isEnough 60 = .ok (.iload_n 1, 1) := by decide +kernel
theorem dX12_isEnough_61 : decode cX12_isEnough 61 = .ok (.idiv, 1) := by decide +kernel
theorem dX12_isEnough_62 : decode cX12_isEnough 62 = .ok (.istore 4, 2) := by decide +kernel
theorem dX12_isEnough_64 : decode cX12_isEnough 64 = .ok (.iconst 0, 1) := by decide +kernel
theorem dX12_isEnough_65 : decode cX12_isEnough 65 = .ok (.istore 7, 2) := by decide +kernel
theorem dX12_isEnough_67 : decode cX12_isEnough 67 = .ok (.iload 7, 2) := by decide +kernel
theorem dX12_isEnough_69 : decode cX12_isEnough 69 = .ok (.iload 6, 2) := by decide +kernel
theorem dX12_isEnough_71 : decode cX12_isEnough 71 = .ok (.if_icmp .ge 53, 3) := by decide +kernel
theorem dX12_isEnough_74 : decode cX12_isEnough 74 = .ok (.iload 5, 2) := by decide +kernel
theorem dX12_isEnough_76 : decode cX12_isEnough 76 = .ok (.ifCond .eq 39, 3) := by decide +kernel
theorem dX12_isEnough_79 : decode cX12_isEnough 79 = .ok (.aload_n 0, 1) := by decide +kernel
theorem dX12_isEnough_80 : decode cX12_isEnough 80 = .ok (.getfield 126, 3) := by decide +kernel
theorem dX12_isEnough_83 : decode cX12_isEnough 83 = .ok (.iload 6, 2) := by decide +kernel
theorem dX12_isEnough_85 : decode cX12_isEnough 85 = .ok (.iaload, 1) := by decide +kernel
theorem dX12_isEnough_86 : decode cX12_isEnough 86 = .ok (.iload 7, 2) := by decide +kernel
theorem dX12_isEnough_88 : decode cX12_isEnough 88 = .ok (.ishr, 1) := by decide +kernel
theorem dX12_isEnough_89 : decode cX12_isEnough 89 = .ok (.iconst 1, 1) := by decide +kernel
theorem dX12_isEnough_90 : decode cX12_isEnough 90 = .ok (.iand, 1) := by decide +kernel
theorem dX12_isEnough_91 : decode cX12_isEnough 91 = .ok (.ifCond .eq 20, 3) := by decide +kernel
theorem dX12_isEnough_94 : decode cX12_isEnough 94 = .ok (.aload_n 0, 1) := by decide +kernel
theorem dX12_isEnough_95 : decode cX12_isEnough 95 = .ok (.getfield 129, 3) := by decide +kernel
theorem dX12_isEnough_98 : decode cX12_isEnough 98 = .ok (.iload 7, 2) := by decide +kernel
theorem dX12_isEnough_100 : decode cX12_isEnough 100 = .ok (.iaload, 1) := by decide +kernel
theorem dX12_isEnough_101 : decode cX12_isEnough 101 = .ok (.aload_n 0, 1) := by decide +kernel
theorem dX12_isEnough_102 : decode cX12_isEnough 102 = .ok (.getfield 129, 3) := by decide +kernel
theorem dX12_isEnough_105 : decode cX12_isEnough 105 = .ok (.iload 6, 2) := by decide +kernel
theorem dX12_isEnough_107 : decode cX12_isEnough 107 = .ok (.iaload, 1) := by decide +kernel
theorem dX12_isEnough_108 : decode cX12_isEnough 108 = .ok (.if_icmp .eq 7, 3) := by decide +kernel
theorem dX12_isEnough_111 : decode cX12_isEnough 111 = .ok (.iconst 1, 1) := by decide +kernel
theorem dX12_isEnough_112 : decode cX12_isEnough 112 = .ok (.goto 4, 3) := by decide +kernel
theorem dX12_isEnough_115 : decode cX12_isEnough 115 = .ok (.iconst 0, 1) := by decide +kernel
theorem dX12_isEnough_116 : decode cX12_isEnough 116 = .ok (.istore 5, 2) := by decide +kernel
theorem dX12_isEnough_118 : decode cX12_isEnough 118 = .ok (.iinc 7 1, 3) := by decide +kernel
theorem dX12_isEnough_121 : decode cX12_isEnough 121 = .ok (.goto (-54), 3) := by decide +kernel
theorem dX12_isEnough_124 : decode cX12_isEnough 124 = .ok (.iinc 6 1, 3) := by decide +kernel
theorem dX12_isEnough_127 : decode cX12_isEnough 127 = .ok (.goto (-89), 3) := by decide +kernel
theorem dX12_isEnough_130 : decode cX12_isEnough 130 = .ok (.iload 5, 2) := by decide +kernel
theorem dX12_isEnough_132 : decode cX12_isEnough 132 = .ok (.ifCond .eq 5, 3) := by decide +kernel
theorem dX12_isEnough_135 : decode cX12_isEnough 135 = .ok (.iconst 1, 1) := by decide +kernel
theorem dX12_isEnough_136 : decode cX12_isEnough 136 = .ok (.ireturn, 1) := by decide +kernel
theorem dX12_isEnough_137 : decode cX12_isEnough 137 = .ok (.iinc 3 1, 3) := by decide +kernel
theorem dX12_isEnough_140 : decode cX12_isEnough 140 = .ok (.goto (-116), 3) := by decide +kernel
theorem dX12_isEnough_143 : decode cX12_isEnough 143 = .ok (.iconst 0, 1) := by decide +kernel
theorem dX12_isEnough_144 : decode cX12_isEnough 144 = .ok (.ireturn, 1) := by decide +kernel
theorem dX12_areAlike_0 : decode cX12_areAlike 0 = .ok (.aload_n 0, 1) := by decide +kernel
theorem dX12_areAlike_1 : decode cX12_areAlike 1 = .ok (.getfield 32, 3) := by decide +kernel
theorem dX12_areAlike_4 : decode cX12_areAlike 4 = .ok (.iload_n 1, 1) := by decide +kernel
theorem dX12_areAlike_5 : decode cX12_areAlike 5 = .ok (.iaload, 1) := by decide +kernel
theorem dX12_areAlike_6 : decode cX12_areAlike 6 = .ok (.aload_n 0, 1) := by decide +kernel
theorem dX12_areAlike_7 : decode cX12_areAlike 7 = .ok (.getfield 32, 3) := by decide +kernel
theorem dX12_areAlike_10 : decode cX12_areAlike 10 = .ok (.iload_n 2, 1) := by decide +kernel
theorem dX12_areAlike_11 : decode cX12_areAlike 11 = .ok (.iaload, 1) := by decide +kernel
theorem dX12_areAlike_12 : decode cX12_areAlike 12 = .ok (.if_icmp .eq 5, 3) := by decide +kernel
theorem dX12_areAlike_15 : decode cX12_areAlike 15 = .ok (.iconst 0, 1) := by decide +kernel
theorem dX12_areAlike_16 : decode cX12_areAlike 16 = .ok (.ireturn, 1) := by decide +kernel
