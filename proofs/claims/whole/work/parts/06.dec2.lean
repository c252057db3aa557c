theorem dX12_areAlike_17 : decode cX12_areAlike 17 = .ok (.iconst 0, 1) := by decide +kernel
theorem dX12_areAlike_18 : decode cX12_areAlike 18 = .ok (.istore_n 3, 1) := by decide +kernel
theorem dX12_areAlike_19 : decode cX12_areAlike 19 = .ok (.iload_n 3, 1) := by decide +kernel
theorem dX12_areAlike_20 : decode cX12_areAlike 20 = .ok (.aload_n 0, 1) := by decide +kernel
theorem dX12_areAlike_21 : decode cX12_areAlike 21 = .ok (.getfield 32, 3) := by decide +kernel
theorem dX12_areAlike_24 : decode cX12_areAlike 24 = .ok (.iload_n 1, 1) := by decide +kernel
theorem dX12_areAlike_25 : decode cX12_areAlike 25 = .ok (.iaload, 1) := by decide +kernel
theorem dX12_areAlike_26 : decode cX12_areAlike 26 = .ok (.if_icmp .ge 36, 3) := by decide +kernel
theorem dX12_areAlike_29 : decode cX12_areAlike 29 = .ok (.aload_n 0, 1) := by decide +kernel
theorem dX12_areAlike_30 : decode cX12_areAlike 30 = .ok (.getfield 35, 3) := by decide +kernel
theorem dX12_areAlike_33 : decode cX12_areAlike 33 = .ok (.bipush 6, 2) := by decide +kernel
theorem dX12_areAlike_35 : decode cX12_areAlike 35 = .ok (.iload_n 1, 1) := by decide +kernel
theorem dX12_areAlike_36 : decode cX12_areAlike 36 = .ok (.imul, 1) := by decide +kernel
theorem dX12_areAlike_37 : decode cX12_areAlike 37 = .ok (.iload_n 3, 1) := by decide +kernel
theorem dX12_areAlike_38 : decode cX12_areAlike 38 = .ok (.iadd, 1) := by decide +kernel
theorem dX12_areAlike_39 : decode cX12_areAlike 39 = .ok (.iaload, 1) := by decide +kernel
theorem dX12_areAlike_40 : decode cX12_areAlike 40 = .ok (.aload_n 0, 1) := by decide +kernel
theorem dX12_areAlike_41 : decode cX12_areAlike 41 = .ok (.getfield 35, 3) := by decide +kernel
theorem dX12_areAlike_44 : decode cX12_areAlike 44 = .ok (.bipush 6, 2) := by decide +kernel
theorem dX12_areAlike_46 : decode cX12_areAlike 46 = .ok (.iload_n 2, 1) := by decide +kernel
theorem dX12_areAlike_47 : decode cX12_areAlike 47 = .ok (.imul, 1) := by decide +kernel
theorem dX12_areAlike_48 : decode cX12_areAlike 48 = .ok (.iload_n 3, 1) := by decide +kernel
theorem dX12_areAlike_49 : decode cX12_areAlike 49 = .ok (.iadd, 1) := by decide +kernel
theorem dX12_areAlike_50 : decode cX12_areAlike 50 = .ok (.iaload, 1) := by decide +kernel
theorem dX12_areAlike_51 : decode cX12_areAlike 51 = .ok (.if_icmp .eq 5, 3) := by decide +kernel
theorem dX12_areAlike_54 : decode cX12_areAlike 54 = .ok (.iconst 0, 1) := by decide +kernel
theorem dX12_areAlike_55 : decode cX12_areAlike 55 = .ok (.ireturn, 1) := by decide +kernel
theorem dX12_areAlike_56 : decode cX12_areAlike 56 = .ok (.iinc 3 1, 3) := by decide +kernel
theorem dX12_areAlike_59 : decode cX12_areAlike 59 = .ok (.goto (-40), 3) := by decide +kernel
theorem dX12_areAlike_62 : decode cX12_areAlike 62 = .ok (.iconst 1, 1) := by decide +kernel
theorem dX12_areAlike_63 : decode cX12_areAlike 63 = .ok (.ireturn, 1) := by decide +kernel
theorem dX12_signs_0 : decode cX12_signs 0 = .ok (.aload_n 0, 1) := by decide +kernel
theorem dX12_signs_1 : decode cX12_signs 1 = .ok (.iconst 0, 1) := by decide +kernel
theorem dX12_signs_2 : decode cX12_signs 2 = .ok (.putfield 159, 3) := by decide +kernel
theorem dX12_signs_5 : decode cX12_signs 5 = .ok (.aload_n 0, 1) := by decide +kernel
theorem dX12_signs_6 : decode cX12_signs 6 = .ok (.iload_n 1, 1) := by decide +kernel
theorem dX12_signs_7 : decode cX12_signs 7 = .ok (.invokevirtual 448, 3) := by decide +kernel
theorem dX12_signs_10 : decode cX12_signs 10 = .ok (.ifCond .eq 12, 3) := by decide +kernel
theorem dX12_signs_13 : decode cX12_signs 13 = .ok (.aload_n 0, 1) := by decide +kernel
theorem dX12_signs_14 : decode cX12_signs 14 = .ok (.iload_n 2, 1) := by decide +kernel
theorem dX12_signs_15 : decode cX12_signs 15 = .ok (.iconst 1, 1) := by decide +kernel
theorem dX12_signs_16 : decode cX12_signs 16 = .ok (.invokevirtual 427, 3) := by decide +kernel
theorem dX12_signs_19 : decode cX12_signs 19 = .ok (.ifCond .ne 5, 3) := by decide +kernel
theorem dX12_signs_22 : decode cX12_signs 22 = .ok (.iconst 0, 1) := by decide +kernel
theorem dX12_signs_23 : decode cX12_signs 23 = .ok (.ireturn, 1) := by decide +kernel
theorem dX12_signs_24 : decode cX12_signs 24 = .ok (.aload_n 0, 1) := by decide +kernel
theorem dX12_signs_25 : decode cX12_signs 25 = .ok (.invokevirtual 436, 3) := by decide +kernel
theorem dX12_signs_28 : decode cX12_signs 28 = .ok (.aload_n 0, 1) := by decide +kernel
theorem dX12_signs_29 : decode cX12_signs 29 = .ok (.iload_n 1, 1) := by decide +kernel
theorem dX12_signs_30 : decode cX12_signs 30 = .ok (.invokevirtual 469, 3) := by decide +kernel
theorem dX12_signs_33 : decode cX12_signs 33 = .ok (.iconst 0, 1) := by decide +kernel
theorem dX12_signs_34 : decode cX12_signs 34 = .ok (.istore_n 3, 1) := by decide +kernel
theorem dX12_signs_35 : decode cX12_signs 35 = .ok (.iload_n 2, 1) := by decide +kernel
theorem dX12_signs_36 : decode cX12_signs 36 = .ok (.iconst 1, 1) := by decide +kernel
theorem dX12_signs_37 : decode cX12_signs 37 = .ok (.if_icmp .ne 79, 3) := by decide +kernel
theorem dX12_signs_40 : decode cX12_signs 40 = .ok (.iconst 0, 1) := by decide +kernel
theorem dX12_signs_41 : decode cX12_signs 41 = .ok (.istore 4, 2) := by decide +kernel
theorem dX12_signs_43 : decode cX12_signs 43 = .ok (.iload 4, 2) := by decide +kernel
theorem dX12_signs_45 : decode cX12_signs 45 = .ok (.aload_n 0, 1) := by decide +kernel
theorem dX12_signs_46 : decode cX12_signs 46 = .ok (.getfield 339, 3) := by decide +kernel
theorem dX12_signs_49 : decode cX12_signs 49 = .ok (.if_icmp .ge 65, 3) := by decide +kernel
theorem dX12_signs_52 : decode cX12_signs 52 = .ok (.iload 4, 2) := by decide +kernel
theorem dX12_signs_54 : decode cX12_signs 54 = .ok (.iconst 1, 1) := by decide +kernel
theorem dX12_signs_55 : decode cX12_signs 55 = .ok (.iadd, 1) := by decide +kernel
theorem dX12_signs_56 : decode cX12_signs 56 = .ok (.istore 5, 2) := by decide +kernel
theorem dX12_signs_58 : decode cX12_signs 58 = .ok (.iload 5, 2) := by decide +kernel
theorem dX12_signs_60 : decode cX12_signs 60 = .ok (.aload_n 0, 1) := by decide +kernel
theorem dX12_signs_61 : decode cX12_signs 61 = .ok (.getfield 339, 3) := by decide +kernel
theorem dX12_signs_64 : decode cX12_signs 64 = .ok (.if_icmp .ge 44, 3) := by decide +kernel
theorem dX12_signs_67 : decode cX12_signs 67 = .ok (.iload_n 3, 1) := by decide +kernel
theorem dX12_signs_68 : decode cX12_signs 68 = .ok (.aload_n 0, 1) := by decide +kernel
theorem dX12_signs_69 : decode cX12_signs 69 = .ok (.getfield 126, 3) := by decide +kernel
theorem dX12_signs_72 : decode cX12_signs 72 = .ok (.iload 4, 2) := by decide +kernel
theorem dX12_signs_74 : decode cX12_signs 74 = .ok (.iaload, 1) := by decide +kernel
theorem dX12_signs_75 : decode cX12_signs 75 = .ok (.iload 5, 2) := by decide +kernel
theorem dX12_signs_77 : decode cX12_signs 77 = .ok (.ishr, 1) := by decide +kernel
theorem dX12_signs_78 : decode cX12_signs 78 = .ok (.iconst 1, 1) := by decide +kernel
theorem dX12_signs_79 : decode cX12_signs 79 = .ok (.iand, 1) := by decide +kernel
theorem dX12_signs_80 : decode cX12_signs 80 = .ok (.iconst 1, 1) := by decide +kernel
theorem dX12_signs_81 : decode cX12_signs 81 = .ok (.if_icmp .ne 18, 3) := by decide +kernel
theorem dX12_signs_84 : decode cX12_signs 84 = .ok (.aload_n 0, 1) := by decide +kernel
theorem dX12_signs_85 : decode cX12_signs 85 = .ok (.iload 4, 2) := by decide +kernel
theorem dX12_signs_87 : decode cX12_signs 87 = .ok (.iload 5, 2) := by decide +kernel
theorem dX12_signs_89 : decode cX12_signs 89 = .ok (.invokevirtual 472, 3) := by decide +kernel
theorem dX12_signs_92 : decode cX12_signs 92 = .ok (.ifCond .eq 7, 3) := by decide +kernel
theorem dX12_signs_95 : decode cX12_signs 95 = .ok (.iconst 1, 1) := by decide +kernel
theorem dX12_signs_96 : decode cX12_signs 96 = .ok (.goto 4, 3) := by decide +kernel
theorem dX12_signs_99 : decode cX12_signs 99 = .ok (.iconst 0, 1) := by decide +kernel
theorem dX12_signs_100 : decode cX12_signs 100 = .ok (.iadd, 1) := by decide +kernel
theorem dX12_signs_101 : decode cX12_signs 101 = .ok (.istore_n 3, 1) := by decide +kernel
theorem dX12_signs_102 : decode cX12_signs 102 = .ok (.iinc 5 1, 3) := by decide +kernel
theorem dX12_signs_105 : decode cX12_signs 105 = .ok (.goto (-47), 3) := by decide +kernel
theorem dX12_signs_108 : decode cX12_signs 108 = .ok (.iinc 4 1, 3) := by decide +kernel
theorem dX12_signs_111 : decode cX12_signs 111 = .ok (.goto (-68), 3) := by decide +kernel
theorem dX12_signs_114 : decode cX12_signs 114 = .ok (.iload_n 3, 1) := by decide +kernel
theorem dX12_signs_115 : decode cX12_signs 115 = .ok (.ireturn, 1) := by decide +kernel
theorem dX12_signs_116 : decode cX12_signs 116 = .ok (.aload_n 0, 1) := by decide +kernel
theorem dX12_signs_117 : decode cX12_signs 117 = .ok (.getfield 339, 3) := by decide +kernel
theorem dX12_signs_120 : decode cX12_signs 120 = .ok (.ifCond .le 21, 3) := by decide +kernel
theorem dX12_signs_123 : decode cX12_signs 123 = .ok (.iload_n 3, 1) := by decide +kernel
theorem dX12_signs_124 : decode cX12_signs 124 = .ok (.ifCond .eq 11, 3) := by decide +kernel
theorem dX12_signs_127 : decode cX12_signs 127 = .ok (.aload_n 0, 1) := by decide +kernel
theorem dX12_signs_128 : decode cX12_signs 128 = .ok (.iload_n 3, 1) := by decide +kernel
theorem dX12_signs_129 : decode cX12_signs 129 = .ok (.invokevirtual 475, 3) := by decide +kernel
theorem dX12_signs_132 : decode cX12_signs 132 = .ok (.ifCond .ne 9, 3) := by decide +kernel
theorem dX12_signs_135 : decode cX12_signs 135 = .ok (.iinc 3 1, 3) := by decide +kernel
theorem dX12_signs_138 : decode cX12_signs 138 = .ok (.goto (-22), 3) := by decide +kernel
theorem dX12_signs_141 : decode cX12_signs 141 = .ok (.iload_n 3, 1) := by decide +kernel
theorem dX12_signs_142 : decode cX12_signs 142 = .ok (.ireturn, 1) := by decide +kernel
theorem dX12_isHis_0 : decode cX12_isHis 0 = .ok (.iload_n 3, 1) := by decide +kernel
theorem dX12_isHis_1 : decode cX12_isHis 1 = .ok (.istore 5, 2) := by decide +kernel
theorem dX12_isHis_3 : decode cX12_isHis 3 = .ok (.iconst 0, 1) := by decide +kernel
theorem dX12_isHis_4 : decode cX12_isHis 4 = .ok (.istore 6, 2) := by decide +kernel
theorem dX12_isHis_6 : decode cX12_isHis 6 = .ok (.iload 6, 2) := by decide +kernel
theorem dX12_isHis_8 : decode cX12_isHis 8 = .ok (.iload 4, 2) := by decide +kernel
theorem dX12_isHis_10 : decode cX12_isHis 10 = .ok (.if_icmp .ge 55, 3) := by decide +kernel
theorem dX12_isHis_13 : decode cX12_isHis 13 = .ok (.iload 5, 2) := by decide +kernel
theorem dX12_isHis_15 : decode cX12_isHis 15 = .ok (.iconst 3, 1) := by decide +kernel
theorem dX12_isHis_16 : decode cX12_isHis 16 = .ok (.irem, 1) := by decide +kernel
theorem dX12_isHis_17 : decode cX12_isHis 17 = .ok (.istore 7, 2) := by decide +kernel
theorem dX12_isHis_19 : decode cX12_isHis 19 = .ok (.iload 5, 2) := by decide +kernel
theorem dX12_isHis_21 : decode cX12_isHis 21 = .ok (.iconst 3, 1) := by decide +kernel
theorem dX12_isHis_22 : decode cX12_isHis 22 = .ok (.idiv, 1) := by decide +kernel
theorem dX12_isHis_23 : decode cX12_isHis 23 = .ok (.istore 5, 2) := by decide +kernel
theorem dX12_isHis_25 : decode cX12_isHis 25 = .ok (.iload 7, 2) := by decide +kernel
theorem dX12_isHis_27 : decode cX12_isHis 27 = .ok (.iconst 2, 1) := by decide +kernel
theorem dX12_isHis_28 : decode cX12_isHis 28 = .ok (.if_icmp .eq 31, 3) := by decide +kernel
theorem dX12_isHis_31 : decode cX12_isHis 31 = .ok (.iload 7, 2) := by decide +kernel
theorem dX12_isHis_33 : decode cX12_isHis 33 = .ok (.aload_n 0, 1) := by decide +kernel
theorem dX12_isHis_34 : decode cX12_isHis 34 = .ok (.getfield 35, 3) := by decide +kernel
theorem dX12_isHis_37 : decode cX12_isHis 37 = .ok (.bipush 6, 2) := by decide +kernel
theorem dX12_isHis_39 : decode cX12_isHis 39 = .ok (.iload_n 1, 1) := by decide +kernel
theorem dX12_isHis_40 : decode cX12_isHis 40 = .ok (.imul, 1) := by decide +kernel
theorem dX12_isHis_41 : decode cX12_isHis 41 = .ok (.iload_n 2, 1) := by decide +kernel
theorem dX12_isHis_42 : decode cX12_isHis 42 = .ok (.iload 6, 2) := by decide +kernel
theorem dX12_isHis_44 : decode cX12_isHis 44 = .ok (.iadd, 1) := by decide +kernel
theorem dX12_isHis_45 : decode cX12_isHis 45 = .ok (.aload_n 0, 1) := by decide +kernel
theorem dX12_isHis_46 : decode cX12_isHis 46 = .ok (.getfield 32, 3) := by decide +kernel
theorem dX12_isHis_49 : decode cX12_isHis 49 = .ok (.iload_n 1, 1) := by decide +kernel
theorem dX12_isHis_50 : decode cX12_isHis 50 = .ok (.iaload, 1) := by decide +kernel
theorem dX12_isHis_51 : decode cX12_isHis 51 = .ok (.irem, 1) := by decide +kernel
theorem dX12_isHis_52 : decode cX12_isHis 52 = .ok (.iadd, 1) := by decide +kernel
theorem dX12_isHis_53 : decode cX12_isHis 53 = .ok (.iaload, 1) := by decide +kernel
theorem dX12_isHis_54 : decode cX12_isHis 54 = .ok (.if_icmp .eq 5, 3) := by decide +kernel
theorem dX12_isHis_57 : decode cX12_isHis 57 = .ok (.iconst 0, 1) := by decide +kernel
theorem dX12_isHis_58 : decode cX12_isHis 58 = .ok (.ireturn, 1) := by decide +kernel
theorem dX12_isHis_59 : decode cX12_isHis 59 = .ok (.iinc 6 1, 3) := by decide +kernel
theorem dX12_isHis_62 : decode cX12_isHis 62 = .ok (.goto (-56), 3) := by decide +kernel
theorem dX12_isHis_65 : decode cX12_isHis 65 = .ok (.iconst 1, 1) := by decide +kernel
theorem dX12_isHis_66 : decode cX12_isHis 66 = .ok (.ireturn, 1) := by decide +kernel
theorem dX12_who_0 : decode cX12_who 0 = .ok (.aload_n 0, 1) := by decide +kernel
theorem dX12_who_1 : decode cX12_who 1 = .ok (.iconst 0, 1) := by decide +kernel
theorem dX12_who_2 : decode cX12_who 2 = .ok (.putfield 159, 3) := by decide +kernel
theorem dX12_who_5 : decode cX12_who 5 = .ok (.aload_n 0, 1) := by decide +kernel
theorem dX12_who_6 : decode cX12_who 6 = .ok (.iload_n 2, 1) := by decide +kernel
theorem dX12_who_7 : decode cX12_who 7 = .ok (.iconst 1, 1) := by decide +kernel
theorem dX12_who_8 : decode cX12_who 8 = .ok (.bipush 12, 2) := by decide +kernel
theorem dX12_who_10 : decode cX12_who 10 = .ok (.invokestatic 420, 3) := by decide +kernel
theorem dX12_who_13 : decode cX12_who 13 = .ok (.iconst 1, 1) := by decide +kernel
theorem dX12_who_14 : decode cX12_who 14 = .ok (.invokevirtual 329, 3) := by decide +kernel
theorem dX12_who_17 : decode cX12_who 17 = .ok (.ifCond .ne 5, 3) := by decide +kernel
theorem dX12_who_20 : decode cX12_who 20 = .ok (.iconst 0, 1) := by decide +kernel
theorem dX12_who_21 : decode cX12_who 21 = .ok (.ireturn, 1) := by decide +kernel
theorem dX12_who_22 : decode cX12_who 22 = .ok (.iconst 1, 1) := by decide +kernel
theorem dX12_who_23 : decode cX12_who 23 = .ok (.istore_n 3, 1) := by decide +kernel
theorem dX12_who_24 : decode cX12_who 24 = .ok (.iconst 0, 1) := by decide +kernel
theorem dX12_who_25 : decode cX12_who 25 = .ok (.istore 4, 2) := by decide +kernel
theorem dX12_who_27 : decode cX12_who 27 = .ok (.iload 4, 2) := by decide +kernel
theorem dX12_who_29 : decode cX12_who 29 = .ok (.iload_n 2, 1) := by decide +kernel
theorem dX12_who_30 : decode cX12_who 30 = .ok (.if_icmp .ge 13, 3) := by decide +kernel
theorem dX12_who_33 : decode cX12_who 33 = .ok (.iload_n 3, 1) := by decide +kernel
theorem dX12_who_34 : decode cX12_who 34 = .ok (.iconst 3, 1) := by decide +kernel
theorem dX12_who_35 : decode cX12_who 35 = .ok (.imul, 1) := by decide +kernel
theorem dX12_who_36 : decode cX12_who 36 = .ok (.istore_n 3, 1) := by decide +kernel
theorem dX12_who_37 : decode cX12_who 37 = .ok (.iinc 4 1, 3) := by decide +kernel
theorem dX12_who_40 : decode cX12_who 40 = .ok (.goto (-13), 3) := by decide +kernel
theorem dX12_who_43 : decode cX12_who 43 = .ok (.aload_n 0, 1) := by decide +kernel
theorem dX12_who_44 : decode cX12_who 44 = .ok (.iload_n 1, 1) := by decide +kernel
theorem dX12_who_45 : decode cX12_who 45 = .ok (.ifCond .lt 12, 3) := by decide +kernel
theorem dX12_who_48 : decode cX12_who 48 = .ok (.iload_n 1, 1) := by decide +kernel
theorem dX12_who_49 : decode cX12_who 49 = .ok (.iload_n 3, 1) := by decide +kernel
theorem dX12_who_50 : decode cX12_who 50 = .ok (.if_icmp .ge 7, 3) := by decide +kernel
theorem dX12_who_53 : decode cX12_who 53 = .ok (.iconst 1, 1) := by decide +kernel
theorem dX12_who_54 : decode cX12_who 54 = .ok (.goto 4, 3) := by decide +kernel
theorem dX12_who_57 : decode cX12_who 57 = .ok (.iconst 0, 1) := by decide +kernel
theorem dX12_who_58 : decode cX12_who 58 = .ok (.iconst 1, 1) := by decide +kernel
theorem dX12_who_59 : decode cX12_who 59 = .ok (.invokevirtual 329, 3) := by decide +kernel
theorem dX12_who_62 : decode cX12_who 62 = .ok (.ifCond .ne 5, 3) := by decide +kernel
theorem dX12_who_65 : decode cX12_who 65 = .ok (.iconst 0, 1) := by decide +kernel
theorem dX12_who_66 : decode cX12_who 66 = .ok (.ireturn, 1) := by decide +kernel
theorem dX12_who_67 : decode cX12_who 67 = .ok (.iconst 0, 1) := by decide +kernel
theorem dX12_who_68 : decode cX12_who 68 = .ok (.istore 4, 2) := by decide +kernel
theorem dX12_who_70 : decode cX12_who 70 = .ok (.iconst 0, 1) := by decide +kernel
theorem dX12_who_71 : decode cX12_who 71 = .ok (.istore 5, 2) := by decide +kernel
theorem dX12_who_73 : decode cX12_who 73 = .ok (.iload 5, 2) := by decide +kernel
theorem dX12_who_75 : decode cX12_who 75 = .ok (.aload_n 0, 1) := by decide +kernel
theorem dX12_who_76 : decode cX12_who 76 = .ok (.getfield 339, 3) := by decide +kernel
theorem dX12_who_79 : decode cX12_who 79 = .ok (.if_icmp .ge 56, 3) := by decide +kernel
theorem dX12_who_82 : decode cX12_who 82 = .ok (.iconst 0, 1) := by decide +kernel
theorem dX12_who_83 : decode cX12_who 83 = .ok (.istore 6, 2) := by decide +kernel
theorem dX12_who_85 : decode cX12_who 85 = .ok (.iload 6, 2) := by decide +kernel
theorem dX12_who_87 : decode cX12_who 87 = .ok (.aload_n 0, 1) := by decide +kernel
theorem dX12_who_88 : decode cX12_who 88 = .ok (.getfield 32, 3) := by decide +kernel
theorem dX12_who_91 : decode cX12_who 91 = .ok (.iload 5, 2) := by decide +kernel
theorem dX12_who_93 : decode cX12_who 93 = .ok (.iaload, 1) := by decide +kernel
theorem dX12_who_94 : decode cX12_who 94 = .ok (.if_icmp .ge 35, 3) := by decide +kernel
theorem dX12_who_97 : decode cX12_who 97 = .ok (.iload 4, 2) := by decide +kernel
theorem dX12_who_99 : decode cX12_who 99 = .ok (.aload_n 0, 1) := by decide +kernel
theorem dX12_who_100 : decode cX12_who 100 = .ok (.iload 5, 2) := by decide +kernel
theorem dX12_who_102 : decode cX12_who 102 = .ok (.iload 6, 2) := by decide +kernel
theorem dX12_who_104 : decode cX12_who 104 = .ok (.iload_n 1, 1) := by decide +kernel
theorem dX12_who_105 : decode cX12_who 105 = .ok (.iload_n 2, 1) := by decide +kernel
theorem dX12_who_106 : decode cX12_who 106 = .ok (.invokevirtual 478, 3) := by decide +kernel
theorem dX12_who_109 : decode cX12_who 109 = .ok (.ifCond .eq 10, 3) := by decide +kernel
theorem dX12_who_112 : decode cX12_who 112 = .ok (.iconst 1, 1) := by decide +kernel
theorem dX12_who_113 : decode cX12_who 113 = .ok (.iload 5, 2) := by decide +kernel
theorem dX12_who_115 : decode cX12_who 115 = .ok (.ishl, 1) := by decide +kernel
theorem dX12_who_116 : decode cX12_who 116 = .ok (.goto 4, 3) := by decide +kernel
theorem dX12_who_119 : decode cX12_who 119 = .ok (.iconst 0, 1) := by decide +kernel
theorem dX12_who_120 : decode cX12_who 120 = .ok (.ior, 1) := by decide +kernel
theorem dX12_who_121 : decode cX12_who 121 = .ok (.istore 4, 2) := by decide +kernel
theorem dX12_who_123 : decode cX12_who 123 = .ok (.iinc 6 1, 3) := by decide +kernel
theorem dX12_who_126 : decode cX12_who 126 = .ok (.goto (-41), 3) := by decide +kernel
theorem dX12_who_129 : decode cX12_who 129 = .ok (.iinc 5 1, 3) := by decide +kernel
theorem dX12_who_132 : decode cX12_who 132 = .ok (.goto (-59), 3) := by decide +kernel
theorem dX12_who_135 : decode cX12_who 135 = .ok (.iload 4, 2) := by decide +kernel
theorem dX12_who_137 : decode cX12_who 137 = .ok (.ireturn, 1) := by decide +kernel
theorem dX12_laysApart_0 : decode cX12_laysApart 0 = .ok (.iconst 0, 1) := by decide +kernel
theorem dX12_laysApart_1 : decode cX12_laysApart 1 = .ok (.istore_n 2, 1) := by decide +kernel
theorem dX12_laysApart_2 : decode cX12_laysApart 2 = .ok (.iload_n 2, 1) := by decide +kernel
theorem dX12_laysApart_3 : decode cX12_laysApart 3 = .ok (.aload_n 0, 1) := by decide +kernel
theorem dX12_laysApart_4 : decode cX12_laysApart 4 = .ok (.getfield 339, 3) := by decide +kernel
theorem dX12_laysApart_7 : decode cX12_laysApart 7 = .ok (.if_icmp .ge 60, 3) := by decide +kernel
theorem dX12_laysApart_10 : decode cX12_laysApart 10 = .ok (.iconst 0, 1) := by decide +kernel
theorem dX12_laysApart_11 : decode cX12_laysApart 11 = .ok (.istore_n 3, 1) := by decide +kernel
theorem dX12_laysApart_12 : decode cX12_laysApart 12 = .ok (.iload_n 3, 1) := by decide +kernel
theorem dX12_laysApart_13 : decode cX12_laysApart 13 = .ok (.aload_n 0, 1) := by decide +kernel
theorem dX12_laysApart_14 : decode cX12_laysApart 14 = .ok (.getfield 342, 3) := by decide +kernel
theorem dX12_laysApart_17 : decode cX12_laysApart 17 = .ok (.if_icmp .ge 44, 3) := by decide +kernel
theorem dX12_laysApart_20 : decode cX12_laysApart 20 = .ok (.aload_n 0, 1) := by decide +kernel
theorem dX12_laysApart_21 : decode cX12_laysApart 21 = .ok (.getfield 132, 3) := by decide +kernel
theorem dX12_laysApart_24 : decode cX12_laysApart 24 = .ok (.bipush 8, 2) := by decide +kernel
theorem dX12_laysApart_26 : decode cX12_laysApart 26 = .ok (.iload_n 2, 1) := by decide +kernel
theorem dX12_laysApart_27 : decode cX12_laysApart 27 = .ok (.imul, 1) := by decide +kernel
theorem dX12_laysApart_28 : decode cX12_laysApart 28 = .ok (.iload_n 3, 1) := by decide +kernel
theorem dX12_laysApart_29 : decode cX12_laysApart 29 = .ok (.iadd, 1) := by decide +kernel
theorem dX12_laysApart_30 : decode cX12_laysApart 30 = .ok (.aload_n 0, 1) := by decide +kernel
theorem dX12_laysApart_31 : decode cX12_laysApart 31 = .ok (.aload_n 0, 1) := by decide +kernel
theorem dX12_laysApart_32 : decode cX12_laysApart 32 = .ok (.getfield 114, 3) := by decide +kernel
theorem dX12_laysApart_35 : decode cX12_laysApart 35 = .ok (.sipush 240, 3) := by decide +kernel
theorem dX12_laysApart_38 : decode cX12_laysApart 38 = .ok (.iload_n 2, 1) := by decide +kernel
theorem dX12_laysApart_39 : decode cX12_laysApart 39 = .ok (.imul, 1) := by decide +kernel
theorem dX12_laysApart_40 : decode cX12_laysApart 40 = .ok (.iload_n 1, 1) := by decide +kernel
theorem dX12_laysApart_41 : decode cX12_laysApart 41 = .ok (.iadd, 1) := by decide +kernel
theorem dX12_laysApart_42 : decode cX12_laysApart 42 = .ok (.iaload, 1) := by decide +kernel
theorem dX12_laysApart_43 : decode cX12_laysApart 43 = .ok (.aload_n 0, 1) := by decide +kernel
theorem dX12_laysApart_44 : decode cX12_laysApart 44 = .ok (.getfield 102, 3) := by decide +kernel
theorem dX12_laysApart_47 : decode cX12_laysApart 47 = .ok (.iconst 5, 1) := by decide +kernel
theorem dX12_laysApart_48 : decode cX12_laysApart 48 = .ok (.iload_n 3, 1) := by decide +kernel
theorem dX12_laysApart_49 : decode cX12_laysApart 49 = .ok (.iadd, 1) := by decide +kernel
theorem dX12_laysApart_50 : decode cX12_laysApart 50 = .ok (.iaload, 1) := by decide +kernel
theorem dX12_laysApart_51 : decode cX12_laysApart 51 = .ok (.invokevirtual 397, 3) := by decide +kernel
theorem dX12_laysApart_54 : decode cX12_laysApart 54 = .ok (.iastore, 1) := by decide +kernel
theorem dX12_laysApart_55 : decode cX12_laysApart 55 = .ok (.iinc 3 1, 3) := by decide +kernel
theorem dX12_laysApart_58 : decode cX12_laysApart 58 = .ok (.goto (-46), 3) := by decide +kernel
theorem dX12_laysApart_61 : decode cX12_laysApart 61 = .ok (.iinc 2 1, 3) := by decide +kernel
theorem dX12_laysApart_64 : decode cX12_laysApart 64 = .ok (.goto (-62), 3) := by decide +kernel
theorem dX12_laysApart_67 : decode cX12_laysApart 67 = .ok (.return_, 1) := by decide +kernel
theorem dX12_wouldRather_0 : decode cX12_wouldRather 0 = .ok (.iload_n 3, 1) := by decide +kernel
theorem dX12_wouldRather_1 : decode cX12_wouldRather 1 = .ok (.iconst (-1), 1) := by decide +kernel
theorem dX12_wouldRather_2 : decode cX12_wouldRather 2 = .ok (.if_icmp .ne 5, 3) := by decide +kernel
theorem dX12_wouldRather_5 : decode cX12_wouldRather 5 = .ok (.iconst 1, 1) := by decide +kernel
theorem dX12_wouldRather_6 : decode cX12_wouldRather 6 = .ok (.ireturn, 1) := by decide +kernel
theorem dX12_wouldRather_7 : decode cX12_wouldRather 7 = .ok (.aload_n 0, 1) := by decide +kernel
theorem dX12_wouldRather_8 : decode cX12_wouldRather 8 = .ok (.getfield 132, 3) := by decide +kernel
theorem dX12_wouldRather_11 : decode cX12_wouldRather 11 = .ok (.bipush 8, 2) := by decide +kernel
theorem dX12_wouldRather_13 : decode cX12_wouldRather 13 = .ok (.iload_n 1, 1) := by decide +kernel
theorem dX12_wouldRather_14 : decode cX12_wouldRather 14 = .ok (.imul, 1) := by decide +kernel
theorem dX12_wouldRather_15 : decode cX12_wouldRather 15 = .ok (.iload_n 2, 1) := by decide +kernel
theorem dX12_wouldRather_16 : decode cX12_wouldRather 16 = .ok (.iadd, 1) := by decide +kernel
theorem dX12_wouldRather_17 : decode cX12_wouldRather 17 = .ok (.iaload, 1) := by decide +kernel
theorem dX12_wouldRather_18 : decode cX12_wouldRather 18 = .ok (.istore 4, 2) := by decide +kernel
theorem dX12_wouldRather_20 : decode cX12_wouldRather 20 = .ok (.aload_n 0, 1) := by decide +kernel
theorem dX12_wouldRather_21 : decode cX12_wouldRather 21 = .ok (.getfield 132, 3) := by decide +kernel
theorem dX12_wouldRather_24 : decode cX12_wouldRather 24 = .ok (.bipush 8, 2) := by decide +kernel
theorem dX12_wouldRather_26 : decode cX12_wouldRather 26 = .ok (.iload_n 1, 1) := by decide +kernel
theorem dX12_wouldRather_27 : decode cX12_wouldRather 27 = .ok (.imul, 1) := by decide +kernel
theorem dX12_wouldRather_28 : decode cX12_wouldRather 28 = .ok (.iload_n 3, 1) := by decide +kernel
theorem dX12_wouldRather_29 : decode cX12_wouldRather 29 = .ok (.iadd, 1) := by decide +kernel
theorem dX12_wouldRather_30 : decode cX12_wouldRather 30 = .ok (.iaload, 1) := by decide +kernel
theorem dX12_wouldRather_31 : decode cX12_wouldRather 31 = .ok (.istore 5, 2) := by decide +kernel
theorem dX12_wouldRather_33 : decode cX12_wouldRather 33 = .ok (.iload 4, 2) := by decide +kernel
theorem dX12_wouldRather_35 : decode cX12_wouldRather 35 = .ok (.iload 5, 2) := by decide +kernel
theorem dX12_wouldRather_37 : decode cX12_wouldRather 37 = .ok (.if_icmp .lt 15, 3) := by decide +kernel
theorem dX12_wouldRather_40 : decode cX12_wouldRather 40 = .ok (.iload 4, 2) := by decide +kernel
theorem dX12_wouldRather_42 : decode cX12_wouldRather 42 = .ok (.iload 5, 2) := by decide +kernel
theorem dX12_wouldRather_44 : decode cX12_wouldRather 44 = .ok (.if_icmp .ne 12, 3) := by decide +kernel
theorem dX12_wouldRather_47 : decode cX12_wouldRather 47 = .ok (.iload_n 2, 1) := by decide +kernel
theorem dX12_wouldRather_48 : decode cX12_wouldRather 48 = .ok (.iload_n 3, 1) := by decide +kernel
theorem dX12_wouldRather_49 : decode cX12_wouldRather 49 = .ok (.if_icmp .ge 7, 3) := by decide +kernel
theorem dX12_wouldRather_52 : decode cX12_wouldRather 52 = .ok (.iconst 1, 1) := by decide +kernel
theorem dX12_wouldRather_53 : decode cX12_wouldRather 53 = .ok (.goto 4, 3) := by decide +kernel
theorem dX12_wouldRather_56 : decode cX12_wouldRather 56 = .ok (.iconst 0, 1) := by decide +kernel
theorem dX12_wouldRather_57 : decode cX12_wouldRather 57 = .ok (.ireturn, 1) := by decide +kernel
theorem dX12_shipRather_0 : decode cX12_shipRather 0 = .ok (.iload_n 3, 1) := by decide +kernel
theorem dX12_shipRather_1 : decode cX12_shipRather 1 = .ok (.iconst (-1), 1) := by decide +kernel
theorem dX12_shipRather_2 : decode cX12_shipRather 2 = .ok (.if_icmp .ne 5, 3) := by decide +kernel
theorem dX12_shipRather_5 : decode cX12_shipRather 5 = .ok (.iconst 1, 1) := by decide +kernel
theorem dX12_shipRather_6 : decode cX12_shipRather 6 = .ok (.ireturn, 1) := by decide +kernel
theorem dX12_shipRather_7 : decode cX12_shipRather 7 = .ok (.aload_n 0, 1) := by decide +kernel
theorem dX12_shipRather_8 : decode cX12_shipRather 8 = .ok (.getfield 20, 3) := by decide +kernel
theorem dX12_shipRather_11 : decode cX12_shipRather 11 = .ok (.iload_n 2, 1) := by decide +kernel
theorem dX12_shipRather_12 : decode cX12_shipRather 12 = .ok (.iaload, 1) := by decide +kernel
theorem dX12_shipRather_13 : decode cX12_shipRather 13 = .ok (.aload_n 0, 1) := by decide +kernel
theorem dX12_shipRather_14 : decode cX12_shipRather 14 = .ok (.getfield 132, 3) := by decide +kernel
theorem dX12_shipRather_17 : decode cX12_shipRather 17 = .ok (.bipush 8, 2) := by decide +kernel
theorem dX12_shipRather_19 : decode cX12_shipRather 19 = .ok (.iload_n 2, 1) := by decide +kernel
theorem dX12_shipRather_20 : decode cX12_shipRather 20 = .ok (.imul, 1) := by decide +kernel
theorem dX12_shipRather_21 : decode cX12_shipRather 21 = .ok (.iload_n 1, 1) := by decide +kernel
theorem dX12_shipRather_22 : decode cX12_shipRather 22 = .ok (.iadd, 1) := by decide +kernel
theorem dX12_shipRather_23 : decode cX12_shipRather 23 = .ok (.iaload, 1) := by decide +kernel
theorem dX12_shipRather_24 : decode cX12_shipRather 24 = .ok (.isub, 1) := by decide +kernel
theorem dX12_shipRather_25 : decode cX12_shipRather 25 = .ok (.istore 4, 2) := by decide +kernel
theorem dX12_shipRather_27 : decode cX12_shipRather 27 = .ok (.aload_n 0, 1) := by decide +kernel
theorem dX12_shipRather_28 : decode cX12_shipRather 28 = .ok (.getfield 20, 3) := by decide +kernel
theorem dX12_shipRather_31 : decode cX12_shipRather 31 = .ok (.iload_n 3, 1) := by decide +kernel
theorem dX12_shipRather_32 : decode cX12_shipRather 32 = .ok (.iaload, 1) := by decide +kernel
theorem dX12_shipRather_33 : decode cX12_shipRather 33 = .ok (.aload_n 0, 1) := by decide +kernel
theorem dX12_shipRather_34 : decode cX12_shipRather 34 = .ok (.getfield 132, 3) := by decide +kernel
theorem dX12_shipRather_37 : decode cX12_shipRather 37 = .ok (.bipush 8, 2) := by decide +kernel
theorem dX12_shipRather_39 : decode cX12_shipRather 39 = .ok (.iload_n 3, 1) := by decide +kernel
theorem dX12_shipRather_40 : decode cX12_shipRather 40 = .ok (.imul, 1) := by decide +kernel
theorem dX12_shipRather_41 : decode cX12_shipRather 41 = .ok (.iload_n 1, 1) := by decide +kernel
theorem dX12_shipRather_42 : decode cX12_shipRather 42 = .ok (.iadd, 1) := by decide +kernel
theorem dX12_shipRather_43 : decode cX12_shipRather 43 = .ok (.iaload, 1) := by decide +kernel
theorem dX12_shipRather_44 : decode cX12_shipRather 44 = .ok (.isub, 1) := by decide +kernel
theorem dX12_shipRather_45 : decode cX12_shipRather 45 = .ok (.istore 5, 2) := by decide +kernel
theorem dX12_shipRather_47 : decode cX12_shipRather 47 = .ok (.iload 4, 2) := by decide +kernel
theorem dX12_shipRather_49 : decode cX12_shipRather 49 = .ok (.iload 5, 2) := by decide +kernel
theorem dX12_shipRather_51 : decode cX12_shipRather 51 = .ok (.if_icmp .gt 15, 3) := by decide +kernel
theorem dX12_shipRather_54 : decode cX12_shipRather 54 = .ok (.iload 4, 2) := by decide +kernel
theorem dX12_shipRather_56 : decode cX12_shipRather 56 = .ok (.iload 5, 2) := by decide +kernel
theorem dX12_shipRather_58 : decode cX12_shipRather 58 = .ok (.if_icmp .ne 12, 3) := by decide +kernel
theorem dX12_shipRather_61 : decode cX12_shipRather 61 = .ok (.iload_n 2, 1) := by decide +kernel
theorem dX12_shipRather_62 : decode cX12_shipRather 62 = .ok (.iload_n 3, 1) := by decide +kernel
theorem dX12_shipRather_63 : decode cX12_shipRather 63 = .ok (.if_icmp .ge 7, 3) := by decide +kernel
theorem dX12_shipRather_66 : decode cX12_shipRather 66 = .ok (.iconst 1, 1) := by decide +kernel
theorem dX12_shipRather_67 : decode cX12_shipRather 67 = .ok (.goto 4, 3) := by decide +kernel
theorem dX12_shipRather_70 : decode cX12_shipRather 70 = .ok (.iconst 0, 1) := by decide +kernel
theorem dX12_shipRather_71 : decode cX12_shipRather 71 = .ok (.ireturn, 1) := by decide +kernel
theorem dX12_isStable_0 : decode cX12_isStable 0 = .ok (.iconst 0, 1) := by decide +kernel
theorem dX12_isStable_1 : decode cX12_isStable 1 = .ok (.istore_n 1, 1) := by decide +kernel
theorem dX12_isStable_2 : decode cX12_isStable 2 = .ok (.iload_n 1, 1) := by decide +kernel
theorem dX12_isStable_3 : decode cX12_isStable 3 = .ok (.aload_n 0, 1) := by decide +kernel
theorem dX12_isStable_4 : decode cX12_isStable 4 = .ok (.getfield 339, 3) := by decide +kernel
theorem dX12_isStable_7 : decode cX12_isStable 7 = .ok (.if_icmp .ge 67, 3) := by decide +kernel
theorem dX12_isStable_10 : decode cX12_isStable 10 = .ok (.iconst 0, 1) := by decide +kernel
theorem dX12_isStable_11 : decode cX12_isStable 11 = .ok (.istore_n 2, 1) := by decide +kernel
theorem dX12_isStable_12 : decode cX12_isStable 12 = .ok (.iload_n 2, 1) := by decide +kernel
theorem dX12_isStable_13 : decode cX12_isStable 13 = .ok (.aload_n 0, 1) := by decide +kernel
theorem dX12_isStable_14 : decode cX12_isStable 14 = .ok (.getfield 342, 3) := by decide +kernel
theorem dX12_isStable_17 : decode cX12_isStable 17 = .ok (.if_icmp .ge 51, 3) := by decide +kernel
theorem dX12_isStable_20 : decode cX12_isStable 20 = .ok (.aload_n 0, 1) := by decide +kernel
theorem dX12_isStable_21 : decode cX12_isStable 21 = .ok (.getfield 135, 3) := by decide +kernel
theorem dX12_isStable_24 : decode cX12_isStable 24 = .ok (.iload_n 1, 1) := by decide +kernel
theorem dX12_isStable_25 : decode cX12_isStable 25 = .ok (.iaload, 1) := by decide +kernel
theorem dX12_isStable_26 : decode cX12_isStable 26 = .ok (.iload_n 2, 1) := by decide +kernel
theorem dX12_isStable_27 : decode cX12_isStable 27 = .ok (.if_icmp .eq 35, 3) := by decide +kernel
theorem dX12_isStable_30 : decode cX12_isStable 30 = .ok (.aload_n 0, 1) := by decide +kernel
theorem dX12_isStable_31 : decode cX12_isStable 31 = .ok (.iload_n 1, 1) := by decide +kernel
theorem dX12_isStable_32 : decode cX12_isStable 32 = .ok (.iload_n 2, 1) := by decide +kernel
theorem dX12_isStable_33 : decode cX12_isStable 33 = .ok (.aload_n 0, 1) := by decide +kernel
theorem dX12_isStable_34 : decode cX12_isStable 34 = .ok (.getfield 135, 3) := by decide +kernel
theorem dX12_isStable_37 : decode cX12_isStable 37 = .ok (.iload_n 1, 1) := by decide +kernel
theorem dX12_isStable_38 : decode cX12_isStable 38 = .ok (.iaload, 1) := by decide +kernel
theorem dX12_isStable_39 : decode cX12_isStable 39 = .ok (.invokevirtual 481, 3) := by decide +kernel
theorem dX12_isStable_42 : decode cX12_isStable 42 = .ok (.ifCond .eq 20, 3) := by decide +kernel
theorem dX12_isStable_45 : decode cX12_isStable 45 = .ok (.aload_n 0, 1) := by decide +kernel
theorem dX12_isStable_46 : decode cX12_isStable 46 = .ok (.iload_n 2, 1) := by decide +kernel
theorem dX12_isStable_47 : decode cX12_isStable 47 = .ok (.iload_n 1, 1) := by decide +kernel
theorem dX12_isStable_48 : decode cX12_isStable 48 = .ok (.aload_n 0, 1) := by decide +kernel
theorem dX12_isStable_49 : decode cX12_isStable 49 = .ok (.getfield 138, 3) := by decide +kernel
theorem dX12_isStable_52 : decode cX12_isStable 52 = .ok (.iload_n 2, 1) := by decide +kernel
theorem dX12_isStable_53 : decode cX12_isStable 53 = .ok (.iaload, 1) := by decide +kernel
theorem dX12_isStable_54 : decode cX12_isStable 54 = .ok (.invokevirtual 484, 3) := by decide +kernel
theorem dX12_isStable_57 : decode cX12_isStable 57 = .ok (.ifCond .eq 5, 3) := by decide +kernel
theorem dX12_isStable_60 : decode cX12_isStable 60 = .ok (.iconst 0, 1) := by decide +kernel
theorem dX12_isStable_61 : decode cX12_isStable 61 = .ok (.ireturn, 1) := by decide +kernel
theorem dX12_isStable_62 : decode cX12_isStable 62 = .ok (.iinc 2 1, 3) := by decide +kernel
theorem dX12_isStable_65 : decode cX12_isStable 65 = .ok (.goto (-53), 3) := by decide +kernel
theorem dX12_isStable_68 : decode cX12_isStable 68 = .ok (.iinc 1 1, 3) := by decide +kernel
theorem dX12_isStable_71 : decode cX12_isStable 71 = .ok (.goto (-69), 3) := by decide +kernel
theorem dX12_isStable_74 : decode cX12_isStable 74 = .ok (.iconst 1, 1) := by decide +kernel
theorem dX12_isStable_75 : decode cX12_isStable 75 = .ok (.ireturn, 1) := by decide +kernel
theorem dX12_laysMatching_0 : decode cX12_laysMatching 0 = .ok (.iload_n 1, 1) := by decide +kernel
theorem dX12_laysMatching_1 : decode cX12_laysMatching 1 = .ok (.istore_n 2, 1) := by decide +kernel
theorem dX12_laysMatching_2 : decode cX12_laysMatching 2 = .ok (.iconst 0, 1) := by decide +kernel
theorem dX12_laysMatching_3 : decode cX12_laysMatching 3 = .ok (.istore_n 3, 1) := by decide +kernel
theorem dX12_laysMatching_4 : decode cX12_laysMatching 4 = .ok (.iload_n 3, 1) := by decide +kernel
theorem dX12_laysMatching_5 : decode cX12_laysMatching 5 = .ok (.aload_n 0, 1) := by decide +kernel
theorem dX12_laysMatching_6 : decode cX12_laysMatching 6 = .ok (.getfield 342, 3) := by decide +kernel
theorem dX12_laysMatching_9 : decode cX12_laysMatching 9 = .ok (.if_icmp .ge 16, 3) := by decide +kernel
theorem dX12_laysMatching_12 : decode cX12_laysMatching 12 = .ok (.aload_n 0, 1) := by decide +kernel
theorem dX12_laysMatching_13 : decode cX12_laysMatching 13 = .ok (.getfield 138, 3) := by decide +kernel
theorem dX12_laysMatching_16 : decode cX12_laysMatching 16 = .ok (.iload_n 3, 1) := by decide +kernel
theorem dX12_laysMatching_17 : decode cX12_laysMatching 17 = .ok (.iconst (-1), 1) := by decide +kernel
theorem dX12_laysMatching_18 : decode cX12_laysMatching 18 = .ok (.iastore, 1) := by decide +kernel
theorem dX12_laysMatching_19 : decode cX12_laysMatching 19 = .ok (.iinc 3 1, 3) := by decide +kernel
theorem dX12_laysMatching_22 : decode cX12_laysMatching 22 = .ok (.goto (-18), 3) := by decide +kernel
theorem dX12_laysMatching_25 : decode cX12_laysMatching 25 = .ok (.iconst 0, 1) := by decide +kernel
theorem dX12_laysMatching_26 : decode cX12_laysMatching 26 = .ok (.istore_n 3, 1) := by decide +kernel
theorem dX12_laysMatching_27 : decode cX12_laysMatching 27 = .ok (.iload_n 3, 1) := by decide +kernel
theorem dX12_laysMatching_28 : decode cX12_laysMatching 28 = .ok (.aload_n 0, 1) := by decide +kernel
theorem dX12_laysMatching_29 : decode cX12_laysMatching 29 = .ok (.getfield 339, 3) := by decide +kernel
theorem dX12_laysMatching_32 : decode cX12_laysMatching 32 = .ok (.if_icmp .ge 76, 3) := by decide +kernel
theorem dX12_laysMatching_35 : decode cX12_laysMatching 35 = .ok (.aload_n 0, 1) := by decide +kernel
theorem dX12_laysMatching_36 : decode cX12_laysMatching 36 = .ok (.getfield 135, 3) := by decide +kernel
theorem dX12_laysMatching_39 : decode cX12_laysMatching 39 = .ok (.iload_n 3, 1) := by decide +kernel
theorem dX12_laysMatching_40 : decode cX12_laysMatching 40 = .ok (.iload_n 2, 1) := by decide +kernel
theorem dX12_laysMatching_41 : decode cX12_laysMatching 41 = .ok (.aload_n 0, 1) := by decide +kernel
theorem dX12_laysMatching_42 : decode cX12_laysMatching 42 = .ok (.getfield 342, 3) := by decide +kernel
theorem dX12_laysMatching_45 : decode cX12_laysMatching 45 = .ok (.iconst 1, 1) := by decide +kernel
theorem dX12_laysMatching_46 : decode cX12_laysMatching 46 = .ok (.iadd, 1) := by decide +kernel
theorem dX12_laysMatching_47 : decode cX12_laysMatching 47 = .ok (.irem, 1) := by decide +kernel
theorem dX12_laysMatching_48 : decode cX12_laysMatching 48 = .ok (.iconst 1, 1) := by decide +kernel
theorem dX12_laysMatching_49 : decode cX12_laysMatching 49 = .ok (.isub, 1) := by decide +kernel
theorem dX12_laysMatching_50 : decode cX12_laysMatching 50 = .ok (.iastore, 1) := by decide +kernel
theorem dX12_laysMatching_51 : decode cX12_laysMatching 51 = .ok (.iload_n 2, 1) := by decide +kernel
theorem dX12_laysMatching_52 : decode cX12_laysMatching 52 = .ok (.aload_n 0, 1) := by decide +kernel
theorem dX12_laysMatching_53 : decode cX12_laysMatching 53 = .ok (.getfield 342, 3) := by decide +kernel
theorem dX12_laysMatching_56 : decode cX12_laysMatching 56 = .ok (.iconst 1, 1) := by decide +kernel
theorem dX12_laysMatching_57 : decode cX12_laysMatching 57 = .ok (.iadd, 1) := by decide +kernel
theorem dX12_laysMatching_58 : decode cX12_laysMatching 58 = .ok (.idiv, 1) := by decide +kernel
theorem dX12_laysMatching_59 : decode cX12_laysMatching 59 = .ok (.istore_n 2, 1) := by decide +kernel
theorem dX12_laysMatching_60 : decode cX12_laysMatching 60 = .ok (.aload_n 0, 1) := by decide +kernel
theorem dX12_laysMatching_61 : decode cX12_laysMatching 61 = .ok (.getfield 135, 3) := by decide +kernel
theorem dX12_laysMatching_64 : decode cX12_laysMatching 64 = .ok (.iload_n 3, 1) := by decide +kernel
theorem dX12_laysMatching_65 : decode cX12_laysMatching 65 = .ok (.iaload, 1) := by decide +kernel
theorem dX12_laysMatching_66 : decode cX12_laysMatching 66 = .ok (.iconst (-1), 1) := by decide +kernel
theorem dX12_laysMatching_67 : decode cX12_laysMatching 67 = .ok (.if_icmp .ne 6, 3) := by decide +kernel
theorem dX12_laysMatching_70 : decode cX12_laysMatching 70 = .ok (.goto 32, 3) := by decide +kernel
theorem dX12_laysMatching_73 : decode cX12_laysMatching 73 = .ok (.aload_n 0, 1) := by decide +kernel
theorem dX12_laysMatching_74 : decode cX12_laysMatching 74 = .ok (.getfield 138, 3) := by decide +kernel
theorem dX12_laysMatching_77 : decode cX12_laysMatching 77 = .ok (.aload_n 0, 1) := by decide +kernel
theorem dX12_laysMatching_78 : decode cX12_laysMatching 78 = .ok (.getfield 135, 3) := by decide +kernel
theorem dX12_laysMatching_81 : decode cX12_laysMatching 81 = .ok (.iload_n 3, 1) := by decide +kernel
theorem dX12_laysMatching_82 : decode cX12_laysMatching 82 = .ok (.iaload, 1) := by decide +kernel
theorem dX12_laysMatching_83 : decode cX12_laysMatching 83 = .ok (.iaload, 1) := by decide +kernel
theorem dX12_laysMatching_84 : decode cX12_laysMatching 84 = .ok (.iconst (-1), 1) := by decide +kernel
theorem dX12_laysMatching_85 : decode cX12_laysMatching 85 = .ok (.if_icmp .eq 5, 3) := by decide +kernel
theorem dX12_laysMatching_88 : decode cX12_laysMatching 88 = .ok (.iconst 0, 1) := by decide +kernel
theorem dX12_laysMatching_89 : decode cX12_laysMatching 89 = .ok (.ireturn, 1) := by decide +kernel
theorem dX12_laysMatching_90 : decode cX12_laysMatching 90 = .ok (.aload_n 0, 1) := by decide +kernel
theorem dX12_laysMatching_91 : decode cX12_laysMatching 91 = .ok (.getfield 138, 3) := by decide +kernel
theorem dX12_laysMatching_94 : decode cX12_laysMatching 94 = .ok (.aload_n 0, 1) := by decide +kernel
theorem dX12_laysMatching_95 : decode cX12_laysMatching 95 = .ok (.getfield 135, 3) := by decide +kernel
theorem dX12_laysMatching_98 : decode cX12_laysMatching 98 = .ok (.iload_n 3, 1) := by decide +kernel
theorem dX12_laysMatching_99 : decode cX12_laysMatching 99 = .ok (.iaload, 1) := by decide +kernel
theorem dX12_laysMatching_100 : decode cX12_laysMatching 100 = .ok (.iload_n 3, 1) := by decide +kernel
theorem dX12_laysMatching_101 : decode cX12_laysMatching 101 = .ok (.iastore, 1) := by decide +kernel
theorem dX12_laysMatching_102 : decode cX12_laysMatching 102 = .ok (.iinc 3 1, 3) := by decide +kernel
theorem dX12_laysMatching_105 : decode cX12_laysMatching 105 = .ok (.goto (-78), 3) := by decide +kernel
theorem dX12_laysMatching_108 : decode cX12_laysMatching 108 = .ok (.iconst 1, 1) := by decide +kernel
theorem dX12_laysMatching_109 : decode cX12_laysMatching 109 = .ok (.ireturn, 1) := by decide +kernel
theorem dX12_visits_0 : decode cX12_visits 0 = .ok (.aload_n 0, 1) := by decide +kernel
theorem dX12_visits_1 : decode cX12_visits 1 = .ok (.iconst 0, 1) := by decide +kernel
theorem dX12_visits_2 : decode cX12_visits 2 = .ok (.putfield 159, 3) := by decide +kernel
theorem dX12_visits_5 : decode cX12_visits 5 = .ok (.aload_n 0, 1) := by decide +kernel
theorem dX12_visits_6 : decode cX12_visits 6 = .ok (.iload_n 1, 1) := by decide +kernel
theorem dX12_visits_7 : decode cX12_visits 7 = .ok (.invokevirtual 445, 3) := by decide +kernel
theorem dX12_visits_10 : decode cX12_visits 10 = .ok (.ifCond .ne 5, 3) := by decide +kernel
theorem dX12_visits_13 : decode cX12_visits 13 = .ok (.iconst 0, 1) := by decide +kernel
theorem dX12_visits_14 : decode cX12_visits 14 = .ok (.ireturn, 1) := by decide +kernel
theorem dX12_visits_15 : decode cX12_visits 15 = .ok (.aload_n 0, 1) := by decide +kernel
theorem dX12_visits_16 : decode cX12_visits 16 = .ok (.invokevirtual 436, 3) := by decide +kernel
theorem dX12_visits_19 : decode cX12_visits 19 = .ok (.aload_n 0, 1) := by decide +kernel
theorem dX12_visits_20 : decode cX12_visits 20 = .ok (.iload_n 1, 1) := by decide +kernel
theorem dX12_visits_21 : decode cX12_visits 21 = .ok (.invokevirtual 487, 3) := by decide +kernel
theorem dX12_visits_24 : decode cX12_visits 24 = .ok (.iconst 1, 1) := by decide +kernel
theorem dX12_visits_25 : decode cX12_visits 25 = .ok (.istore_n 2, 1) := by decide +kernel
theorem dX12_visits_26 : decode cX12_visits 26 = .ok (.iconst 0, 1) := by decide +kernel
theorem dX12_visits_27 : decode cX12_visits 27 = .ok (.istore_n 3, 1) := by decide +kernel
theorem dX12_visits_28 : decode cX12_visits 28 = .ok (.iload_n 3, 1) := by decide +kernel
theorem dX12_visits_29 : decode cX12_visits 29 = .ok (.aload_n 0, 1) := by decide +kernel
theorem dX12_visits_30 : decode cX12_visits 30 = .ok (.getfield 339, 3) := by decide +kernel
theorem dX12_visits_33 : decode cX12_visits 33 = .ok (.if_icmp .ge 18, 3) := by decide +kernel
theorem dX12_visits_36 : decode cX12_visits 36 = .ok (.iload_n 2, 1) := by decide +kernel
theorem dX12_visits_37 : decode cX12_visits 37 = .ok (.aload_n 0, 1) := by decide +kernel
theorem dX12_visits_38 : decode cX12_visits 38 = .ok (.getfield 342, 3) := by decide +kernel
theorem dX12_visits_41 : decode cX12_visits 41 = .ok (.iconst 1, 1) := by decide +kernel
theorem dX12_visits_42 : decode cX12_visits 42 = .ok (.iadd, 1) := by decide +kernel
theorem dX12_visits_43 : decode cX12_visits 43 = .ok (.imul, 1) := by decide +kernel
theorem dX12_visits_44 : decode cX12_visits 44 = .ok (.istore_n 2, 1) := by decide +kernel
theorem dX12_visits_45 : decode cX12_visits 45 = .ok (.iinc 3 1, 3) := by decide +kernel
theorem dX12_visits_48 : decode cX12_visits 48 = .ok (.goto (-20), 3) := by decide +kernel
theorem dX12_visits_51 : decode cX12_visits 51 = .ok (.iconst 0, 1) := by decide +kernel
theorem dX12_visits_52 : decode cX12_visits 52 = .ok (.istore_n 3, 1) := by decide +kernel
theorem dX12_visits_53 : decode cX12_visits 53 = .ok (.iconst 0, 1) := by decide +kernel
theorem dX12_visits_54 : decode cX12_visits 54 = .ok (.istore 4, 2) := by decide +kernel
theorem dX12_visits_56 : decode cX12_visits 56 = .ok (.iload 4, 2) := by decide +kernel
theorem dX12_visits_58 : decode cX12_visits 58 = .ok (.iload_n 2, 1) := by decide +kernel
theorem dX12_visits_59 : decode cX12_visits 59 = .ok (.if_icmp .ge 33, 3) := by decide +kernel
theorem dX12_visits_62 : decode cX12_visits 62 = .ok (.iload_n 3, 1) := by decide +kernel
theorem dX12_visits_63 : decode cX12_visits 63 = .ok (.aload_n 0, 1) := by decide +kernel
theorem dX12_visits_64 : decode cX12_visits 64 = .ok (.iload 4, 2) := by decide +kernel
theorem dX12_visits_66 : decode cX12_visits 66 = .ok (.invokevirtual 490, 3) := by decide +kernel
theorem dX12_visits_69 : decode cX12_visits 69 = .ok (.ifCond .eq 14, 3) := by decide +kernel
theorem dX12_visits_72 : decode cX12_visits 72 = .ok (.aload_n 0, 1) := by decide +kernel
theorem dX12_visits_73 : decode cX12_visits 73 = .ok (.invokevirtual 493, 3) := by decide +kernel
theorem dX12_visits_76 : decode cX12_visits 76 = .ok (.ifCond .eq 7, 3) := by decide +kernel
theorem dX12_visits_79 : decode cX12_visits 79 = .ok (.iconst 1, 1) := by decide +kernel
theorem dX12_visits_80 : decode cX12_visits 80 = .ok (.goto 4, 3) := by decide +kernel
theorem dX12_visits_83 : decode cX12_visits 83 = .ok (.iconst 0, 1) := by decide +kernel
theorem dX12_visits_84 : decode cX12_visits 84 = .ok (.iadd, 1) := by decide +kernel
theorem dX12_visits_85 : decode cX12_visits 85 = .ok (.istore_n 3, 1) := by decide +kernel
theorem dX12_visits_86 : decode cX12_visits 86 = .ok (.iinc 4 1, 3) := by decide +kernel
theorem dX12_visits_89 : decode cX12_visits 89 = .ok (.goto (-33), 3) := by decide +kernel
theorem dX12_visits_92 : decode cX12_visits 92 = .ok (.iload_n 3, 1) := by decide +kernel
theorem dX12_visits_93 : decode cX12_visits 93 = .ok (.ireturn, 1) := by decide +kernel
theorem dX12_asks_0 : decode cX12_asks 0 = .ok (.iconst (-1), 1) := by decide +kernel
theorem dX12_asks_1 : decode cX12_asks 1 = .ok (.istore_n 2, 1) := by decide +kernel
theorem dX12_asks_2 : decode cX12_asks 2 = .ok (.iconst 0, 1) := by decide +kernel
theorem dX12_asks_3 : decode cX12_asks 3 = .ok (.istore_n 3, 1) := by decide +kernel
theorem dX12_asks_4 : decode cX12_asks 4 = .ok (.iload_n 3, 1) := by decide +kernel
theorem dX12_asks_5 : decode cX12_asks 5 = .ok (.aload_n 0, 1) := by decide +kernel
theorem dX12_asks_6 : decode cX12_asks 6 = .ok (.getfield 342, 3) := by decide +kernel
theorem dX12_asks_9 : decode cX12_asks 9 = .ok (.if_icmp .ge 34, 3) := by decide +kernel
theorem dX12_asks_12 : decode cX12_asks 12 = .ok (.aload_n 0, 1) := by decide +kernel
theorem dX12_asks_13 : decode cX12_asks 13 = .ok (.getfield 141, 3) := by decide +kernel
theorem dX12_asks_16 : decode cX12_asks 16 = .ok (.iload_n 1, 1) := by decide +kernel
theorem dX12_asks_17 : decode cX12_asks 17 = .ok (.iaload, 1) := by decide +kernel
theorem dX12_asks_18 : decode cX12_asks 18 = .ok (.iload_n 3, 1) := by decide +kernel
theorem dX12_asks_19 : decode cX12_asks 19 = .ok (.ishr, 1) := by decide +kernel
theorem dX12_asks_20 : decode cX12_asks 20 = .ok (.iconst 1, 1) := by decide +kernel
theorem dX12_asks_21 : decode cX12_asks 21 = .ok (.iand, 1) := by decide +kernel
theorem dX12_asks_22 : decode cX12_asks 22 = .ok (.ifCond .ne 15, 3) := by decide +kernel
theorem dX12_asks_25 : decode cX12_asks 25 = .ok (.aload_n 0, 1) := by decide +kernel
theorem dX12_asks_26 : decode cX12_asks 26 = .ok (.iload_n 1, 1) := by decide +kernel
theorem dX12_asks_27 : decode cX12_asks 27 = .ok (.iload_n 3, 1) := by decide +kernel
theorem dX12_asks_28 : decode cX12_asks 28 = .ok (.iload_n 2, 1) := by decide +kernel
theorem dX12_asks_29 : decode cX12_asks 29 = .ok (.invokevirtual 481, 3) := by decide +kernel
theorem dX12_asks_32 : decode cX12_asks 32 = .ok (.ifCond .eq 5, 3) := by decide +kernel
theorem dX12_asks_35 : decode cX12_asks 35 = .ok (.iload_n 3, 1) := by decide +kernel
theorem dX12_asks_36 : decode cX12_asks 36 = .ok (.istore_n 2, 1) := by decide +kernel
theorem dX12_asks_37 : decode cX12_asks 37 = .ok (.iinc 3 1, 3) := by decide +kernel
theorem dX12_asks_40 : decode cX12_asks 40 = .ok (.goto (-36), 3) := by decide +kernel
theorem dX12_asks_43 : decode cX12_asks 43 = .ok (.iload_n 2, 1) := by decide +kernel
theorem dX12_asks_44 : decode cX12_asks 44 = .ok (.iconst (-1), 1) := by decide +kernel
theorem dX12_asks_45 : decode cX12_asks 45 = .ok (.if_icmp .ne 5, 3) := by decide +kernel
theorem dX12_asks_48 : decode cX12_asks 48 = .ok (.iconst 0, 1) := by decide +kernel
theorem dX12_asks_49 : decode cX12_asks 49 = .ok (.ireturn, 1) := by decide +kernel
theorem dX12_asks_50 : decode cX12_asks 50 = .ok (.aload_n 0, 1) := by decide +kernel
theorem dX12_asks_51 : decode cX12_asks 51 = .ok (.getfield 141, 3) := by decide +kernel
theorem dX12_asks_54 : decode cX12_asks 54 = .ok (.iload_n 1, 1) := by decide +kernel
theorem dX12_asks_55 : decode cX12_asks 55 = .ok (.dup2, 1) := by decide +kernel
theorem dX12_asks_56 : decode cX12_asks 56 = .ok (.iaload, 1) := by decide +kernel
theorem dX12_asks_57 : decode cX12_asks 57 = .ok (.iconst 1, 1) := by decide +kernel
theorem dX12_asks_58 : decode cX12_asks 58 = .ok (.iload_n 2, 1) := by decide +kernel
theorem dX12_asks_59 : decode cX12_asks 59 = .ok (.ishl, 1) := by decide +kernel
theorem dX12_asks_60 : decode cX12_asks 60 = .ok (.ior, 1) := by decide +kernel
theorem dX12_asks_61 : decode cX12_asks 61 = .ok (.iastore, 1) := by decide +kernel
theorem dX12_asks_62 : decode cX12_asks 62 = .ok (.aload_n 0, 1) := by decide +kernel
theorem dX12_asks_63 : decode cX12_asks 63 = .ok (.iload_n 2, 1) := by decide +kernel
theorem dX12_asks_64 : decode cX12_asks 64 = .ok (.iload_n 1, 1) := by decide +kernel
theorem dX12_asks_65 : decode cX12_asks 65 = .ok (.aload_n 0, 1) := by decide +kernel
theorem dX12_asks_66 : decode cX12_asks 66 = .ok (.getfield 138, 3) := by decide +kernel
theorem dX12_asks_69 : decode cX12_asks 69 = .ok (.iload_n 2, 1) := by decide +kernel
theorem dX12_asks_70 : decode cX12_asks 70 = .ok (.iaload, 1) := by decide +kernel
theorem dX12_asks_71 : decode cX12_asks 71 = .ok (.invokevirtual 484, 3) := by decide +kernel
theorem dX12_asks_74 : decode cX12_asks 74 = .ok (.ifCond .ne 5, 3) := by decide +kernel
theorem dX12_asks_77 : decode cX12_asks 77 = .ok (.iconst 1, 1) := by decide +kernel
theorem dX12_asks_78 : decode cX12_asks 78 = .ok (.ireturn, 1) := by decide +kernel
theorem dX12_asks_79 : decode cX12_asks 79 = .ok (.aload_n 0, 1) := by decide +kernel
theorem dX12_asks_80 : decode cX12_asks 80 = .ok (.getfield 138, 3) := by decide +kernel
theorem dX12_asks_83 : decode cX12_asks 83 = .ok (.iload_n 2, 1) := by decide +kernel
theorem dX12_asks_84 : decode cX12_asks 84 = .ok (.iaload, 1) := by decide +kernel
theorem dX12_asks_85 : decode cX12_asks 85 = .ok (.iconst (-1), 1) := by decide +kernel
theorem dX12_asks_86 : decode cX12_asks 86 = .ok (.if_icmp .eq 15, 3) := by decide +kernel
theorem dX12_asks_89 : decode cX12_asks 89 = .ok (.aload_n 0, 1) := by decide +kernel
theorem dX12_asks_90 : decode cX12_asks 90 = .ok (.getfield 135, 3) := by decide +kernel
theorem dX12_asks_93 : decode cX12_asks 93 = .ok (.aload_n 0, 1) := by decide +kernel
theorem dX12_asks_94 : decode cX12_asks 94 = .ok (.getfield 138, 3) := by decide +kernel
theorem dX12_asks_97 : decode cX12_asks 97 = .ok (.iload_n 2, 1) := by decide +kernel
theorem dX12_asks_98 : decode cX12_asks 98 = .ok (.iaload, 1) := by decide +kernel
theorem dX12_asks_99 : decode cX12_asks 99 = .ok (.iconst (-1), 1) := by decide +kernel
theorem dX12_asks_100 : decode cX12_asks 100 = .ok (.iastore, 1) := by decide +kernel
theorem dX12_asks_101 : decode cX12_asks 101 = .ok (.aload_n 0, 1) := by decide +kernel
theorem dX12_asks_102 : decode cX12_asks 102 = .ok (.getfield 138, 3) := by decide +kernel
theorem dX12_asks_105 : decode cX12_asks 105 = .ok (.iload_n 2, 1) := by decide +kernel
theorem dX12_asks_106 : decode cX12_asks 106 = .ok (.iload_n 1, 1) := by decide +kernel
theorem dX12_asks_107 : decode cX12_asks 107 = .ok (.iastore, 1) := by decide +kernel
theorem dX12_asks_108 : decode cX12_asks 108 = .ok (.aload_n 0, 1) := by decide +kernel
theorem dX12_asks_109 : decode cX12_asks 109 = .ok (.getfield 135, 3) := by decide +kernel
theorem dX12_asks_112 : decode cX12_asks 112 = .ok (.iload_n 1, 1) := by decide +kernel
theorem dX12_asks_113 : decode cX12_asks 113 = .ok (.iload_n 2, 1) := by decide +kernel
theorem dX12_asks_114 : decode cX12_asks 114 = .ok (.iastore, 1) := by decide +kernel
theorem dX12_asks_115 : decode cX12_asks 115 = .ok (.iconst 1, 1) := by decide +kernel
theorem dX12_asks_116 : decode cX12_asks 116 = .ok (.ireturn, 1) := by decide +kernel
theorem dX12_visit_0 : decode cX12_visit 0 = .ok (.aload_n 0, 1) := by decide +kernel
theorem dX12_visit_1 : decode cX12_visit 1 = .ok (.iconst 0, 1) := by decide +kernel
theorem dX12_visit_2 : decode cX12_visit 2 = .ok (.putfield 159, 3) := by decide +kernel
theorem dX12_visit_5 : decode cX12_visit 5 = .ok (.aload_n 0, 1) := by decide +kernel
theorem dX12_visit_6 : decode cX12_visit 6 = .ok (.iload_n 1, 1) := by decide +kernel
theorem dX12_visit_7 : decode cX12_visit 7 = .ok (.invokevirtual 424, 3) := by decide +kernel
theorem dX12_visit_10 : decode cX12_visit 10 = .ok (.ifCond .eq 11, 3) := by decide +kernel
theorem dX12_visit_13 : decode cX12_visit 13 = .ok (.aload_n 0, 1) := by decide +kernel
theorem dX12_visit_14 : decode cX12_visit 14 = .ok (.iload_n 2, 1) := by decide +kernel
theorem dX12_visit_15 : decode cX12_visit 15 = .ok (.invokevirtual 445, 3) := by decide +kernel
theorem dX12_visit_18 : decode cX12_visit 18 = .ok (.ifCond .ne 5, 3) := by decide +kernel
theorem dX12_visit_21 : decode cX12_visit 21 = .ok (.iconst 0, 1) := by decide +kernel
theorem dX12_visit_22 : decode cX12_visit 22 = .ok (.ireturn, 1) := by decide +kernel
theorem dX12_visit_23 : decode cX12_visit 23 = .ok (.aload_n 0, 1) := by decide +kernel
theorem dX12_visit_24 : decode cX12_visit 24 = .ok (.invokevirtual 436, 3) := by decide +kernel
theorem dX12_visit_27 : decode cX12_visit 27 = .ok (.aload_n 0, 1) := by decide +kernel
theorem dX12_visit_28 : decode cX12_visit 28 = .ok (.iload_n 2, 1) := by decide +kernel
theorem dX12_visit_29 : decode cX12_visit 29 = .ok (.invokevirtual 487, 3) := by decide +kernel
theorem dX12_visit_32 : decode cX12_visit 32 = .ok (.iconst 0, 1) := by decide +kernel
theorem dX12_visit_33 : decode cX12_visit 33 = .ok (.istore_n 3, 1) := by decide +kernel
theorem dX12_visit_34 : decode cX12_visit 34 = .ok (.iload_n 3, 1) := by decide +kernel
theorem dX12_visit_35 : decode cX12_visit 35 = .ok (.aload_n 0, 1) := by decide +kernel
theorem dX12_visit_36 : decode cX12_visit 36 = .ok (.getfield 342, 3) := by decide +kernel
theorem dX12_visit_39 : decode cX12_visit 39 = .ok (.if_icmp .ge 16, 3) := by decide +kernel
theorem dX12_visit_42 : decode cX12_visit 42 = .ok (.aload_n 0, 1) := by decide +kernel
theorem dX12_visit_43 : decode cX12_visit 43 = .ok (.getfield 138, 3) := by decide +kernel
theorem dX12_visit_46 : decode cX12_visit 46 = .ok (.iload_n 3, 1) := by decide +kernel
theorem dX12_visit_47 : decode cX12_visit 47 = .ok (.iconst (-1), 1) := by decide +kernel
theorem dX12_visit_48 : decode cX12_visit 48 = .ok (.iastore, 1) := by decide +kernel
theorem dX12_visit_49 : decode cX12_visit 49 = .ok (.iinc 3 1, 3) := by decide +kernel
theorem dX12_visit_52 : decode cX12_visit 52 = .ok (.goto (-18), 3) := by decide +kernel
theorem dX12_visit_55 : decode cX12_visit 55 = .ok (.iconst 0, 1) := by decide +kernel
theorem dX12_visit_56 : decode cX12_visit 56 = .ok (.istore_n 3, 1) := by decide +kernel
theorem dX12_visit_57 : decode cX12_visit 57 = .ok (.iload_n 3, 1) := by decide +kernel
theorem dX12_visit_58 : decode cX12_visit 58 = .ok (.aload_n 0, 1) := by decide +kernel
theorem dX12_visit_59 : decode cX12_visit 59 = .ok (.getfield 339, 3) := by decide +kernel
theorem dX12_visit_62 : decode cX12_visit 62 = .ok (.if_icmp .ge 23, 3) := by decide +kernel
theorem dX12_visit_65 : decode cX12_visit 65 = .ok (.aload_n 0, 1) := by decide +kernel
theorem dX12_visit_66 : decode cX12_visit 66 = .ok (.getfield 135, 3) := by decide +kernel
theorem dX12_visit_69 : decode cX12_visit 69 = .ok (.iload_n 3, 1) := by decide +kernel
theorem dX12_visit_70 : decode cX12_visit 70 = .ok (.iconst (-1), 1) := by decide +kernel
theorem dX12_visit_71 : decode cX12_visit 71 = .ok (.iastore, 1) := by decide +kernel
theorem dX12_visit_72 : decode cX12_visit 72 = .ok (.aload_n 0, 1) := by decide +kernel
theorem dX12_visit_73 : decode cX12_visit 73 = .ok (.getfield 141, 3) := by decide +kernel
theorem dX12_visit_76 : decode cX12_visit 76 = .ok (.iload_n 3, 1) := by decide +kernel
theorem dX12_visit_77 : decode cX12_visit 77 = .ok (.iconst 0, 1) := by decide +kernel
theorem dX12_visit_78 : decode cX12_visit 78 = .ok (.iastore, 1) := by decide +kernel
theorem dX12_visit_79 : decode cX12_visit 79 = .ok (.iinc 3 1, 3) := by decide +kernel
theorem dX12_visit_82 : decode cX12_visit 82 = .ok (.goto (-25), 3) := by decide +kernel
theorem dX12_visit_85 : decode cX12_visit 85 = .ok (.iconst 1, 1) := by decide +kernel
theorem dX12_visit_86 : decode cX12_visit 86 = .ok (.istore_n 3, 1) := by decide +kernel
theorem dX12_visit_87 : decode cX12_visit 87 = .ok (.iload_n 3, 1) := by decide +kernel
theorem dX12_visit_88 : decode cX12_visit 88 = .ok (.ifCond .eq 56, 3) := by decide +kernel
theorem dX12_visit_91 : decode cX12_visit 91 = .ok (.iconst 0, 1) := by decide +kernel
theorem dX12_visit_92 : decode cX12_visit 92 = .ok (.istore_n 3, 1) := by decide +kernel
theorem dX12_visit_93 : decode cX12_visit 93 = .ok (.iconst 0, 1) := by decide +kernel
theorem dX12_visit_94 : decode cX12_visit 94 = .ok (.istore 4, 2) := by decide +kernel
theorem dX12_visit_96 : decode cX12_visit 96 = .ok (.iload 4, 2) := by decide +kernel
theorem dX12_visit_98 : decode cX12_visit 98 = .ok (.aload_n 0, 1) := by decide +kernel
theorem dX12_visit_99 : decode cX12_visit 99 = .ok (.getfield 339, 3) := by decide +kernel
theorem dX12_visit_102 : decode cX12_visit 102 = .ok (.if_icmp .ge 39, 3) := by decide +kernel
theorem dX12_visit_105 : decode cX12_visit 105 = .ok (.aload_n 0, 1) := by decide +kernel
theorem dX12_visit_106 : decode cX12_visit 106 = .ok (.getfield 135, 3) := by decide +kernel
theorem dX12_visit_109 : decode cX12_visit 109 = .ok (.iload 4, 2) := by decide +kernel
theorem dX12_visit_111 : decode cX12_visit 111 = .ok (.iaload, 1) := by decide +kernel
theorem dX12_visit_112 : decode cX12_visit 112 = .ok (.iconst (-1), 1) := by decide +kernel
theorem dX12_visit_113 : decode cX12_visit 113 = .ok (.if_icmp .ne 22, 3) := by decide +kernel
theorem dX12_visit_116 : decode cX12_visit 116 = .ok (.aload_n 0, 1) := by decide +kernel
theorem dX12_visit_117 : decode cX12_visit 117 = .ok (.iload 4, 2) := by decide +kernel
theorem dX12_visit_119 : decode cX12_visit 119 = .ok (.invokevirtual 496, 3) := by decide +kernel
theorem dX12_visit_122 : decode cX12_visit 122 = .ok (.ifCond .ne 7, 3) := by decide +kernel
theorem dX12_visit_125 : decode cX12_visit 125 = .ok (.iload_n 3, 1) := by decide +kernel
theorem dX12_visit_126 : decode cX12_visit 126 = .ok (.ifCond .eq 7, 3) := by decide +kernel
theorem dX12_visit_129 : decode cX12_visit 129 = .ok (.iconst 1, 1) := by decide +kernel
theorem dX12_visit_130 : decode cX12_visit 130 = .ok (.goto 4, 3) := by decide +kernel
theorem dX12_visit_133 : decode cX12_visit 133 = .ok (.iconst 0, 1) := by decide +kernel
theorem dX12_visit_134 : decode cX12_visit 134 = .ok (.istore_n 3, 1) := by decide +kernel
theorem dX12_visit_135 : decode cX12_visit 135 = .ok (.iinc 4 1, 3) := by decide +kernel
theorem dX12_visit_138 : decode cX12_visit 138 = .ok (.goto (-42), 3) := by decide +kernel
theorem dX12_visit_141 : decode cX12_visit 141 = .ok (.goto (-54), 3) := by decide +kernel
theorem dX12_visit_144 : decode cX12_visit 144 = .ok (.aload_n 0, 1) := by decide +kernel
theorem dX12_visit_145 : decode cX12_visit 145 = .ok (.getfield 135, 3) := by decide +kernel
theorem dX12_visit_148 : decode cX12_visit 148 = .ok (.iload_n 1, 1) := by decide +kernel
theorem dX12_visit_149 : decode cX12_visit 149 = .ok (.iaload, 1) := by decide +kernel
theorem dX12_visit_150 : decode cX12_visit 150 = .ok (.ireturn, 1) := by decide +kernel
theorem dX12_isLaw_0 : decode cX12_isLaw 0 = .ok (.aload_n 0, 1) := by decide +kernel
theorem dX12_isLaw_1 : decode cX12_isLaw 1 = .ok (.iload_n 1, 1) := by decide +kernel
theorem dX12_isLaw_2 : decode cX12_isLaw 2 = .ok (.iconst (-1), 1) := by decide +kernel
theorem dX12_isLaw_3 : decode cX12_isLaw 3 = .ok (.if_icmp .lt 15, 3) := by decide +kernel
theorem dX12_isLaw_6 : decode cX12_isLaw 6 = .ok (.iload_n 1, 1) := by decide +kernel
theorem dX12_isLaw_7 : decode cX12_isLaw 7 = .ok (.aload_n 0, 1) := by decide +kernel
theorem dX12_isLaw_8 : decode cX12_isLaw 8 = .ok (.getfield 348, 3) := by decide +kernel
theorem dX12_isLaw_11 : decode cX12_isLaw 11 = .ok (.if_icmp .ge 7, 3) := by decide +kernel
theorem dX12_isLaw_14 : decode cX12_isLaw 14 = .ok (.iconst 1, 1) := by decide +kernel
theorem dX12_isLaw_15 : decode cX12_isLaw 15 = .ok (.goto 4, 3) := by decide +kernel
theorem dX12_isLaw_18 : decode cX12_isLaw 18 = .ok (.iconst 0, 1) := by decide +kernel
theorem dX12_isLaw_19 : decode cX12_isLaw 19 = .ok (.iconst 1, 1) := by decide +kernel
theorem dX12_isLaw_20 : decode cX12_isLaw 20 = .ok (.invokevirtual 329, 3) := by decide +kernel
theorem dX12_isLaw_23 : decode cX12_isLaw 23 = .ok (.ireturn, 1) := by decide +kernel
theorem dX12_sumBy_0 : decode cX12_sumBy 0 = .ok (.aload_n 0, 1) := by decide +kernel
theorem dX12_sumBy_1 : decode cX12_sumBy 1 = .ok (.sipush 240, 3) := by decide +kernel
theorem dX12_sumBy_4 : decode cX12_sumBy 4 = .ok (.iload_n 1, 1) := by decide +kernel
theorem dX12_sumBy_5 : decode cX12_sumBy 5 = .ok (.invokevirtual 391, 3) := by decide +kernel
theorem dX12_sumBy_8 : decode cX12_sumBy 8 = .ok (.aload_n 0, 1) := by decide +kernel
theorem dX12_sumBy_9 : decode cX12_sumBy 9 = .ok (.invokevirtual 499, 3) := by decide +kernel
theorem dX12_sumBy_12 : decode cX12_sumBy 12 = .ok (.ireturn, 1) := by decide +kernel
theorem dX12_compared_0 : decode cX12_compared 0 = .ok (.aload_n 0, 1) := by decide +kernel
theorem dX12_compared_1 : decode cX12_compared 1 = .ok (.iconst 0, 1) := by decide +kernel
theorem dX12_compared_2 : decode cX12_compared 2 = .ok (.putfield 159, 3) := by decide +kernel
theorem dX12_compared_5 : decode cX12_compared 5 = .ok (.aload_n 0, 1) := by decide +kernel
theorem dX12_compared_6 : decode cX12_compared 6 = .ok (.iload_n 1, 1) := by decide +kernel
theorem dX12_compared_7 : decode cX12_compared 7 = .ok (.invokevirtual 502, 3) := by decide +kernel
theorem dX12_compared_10 : decode cX12_compared 10 = .ok (.ifCond .eq 11, 3) := by decide +kernel
theorem dX12_compared_13 : decode cX12_compared 13 = .ok (.aload_n 0, 1) := by decide +kernel
theorem dX12_compared_14 : decode cX12_compared 14 = .ok (.iload_n 1, 1) := by decide +kernel
theorem dX12_compared_15 : decode cX12_compared 15 = .ok (.invokevirtual 505, 3) := by decide +kernel
theorem dX12_compared_18 : decode cX12_compared 18 = .ok (.goto 4, 3) := by decide +kernel
theorem dX12_compared_21 : decode cX12_compared 21 = .ok (.iconst 0, 1) := by decide +kernel
theorem dX12_compared_22 : decode cX12_compared 22 = .ok (.ireturn, 1) := by decide +kernel
theorem dX12_best_0 : decode cX12_best 0 = .ok (.aload_n 0, 1) := by decide +kernel
theorem dX12_best_1 : decode cX12_best 1 = .ok (.iconst 0, 1) := by decide +kernel
theorem dX12_best_2 : decode cX12_best 2 = .ok (.putfield 159, 3) := by decide +kernel
theorem dX12_best_5 : decode cX12_best 5 = .ok (.iconst (-1), 1) := by decide +kernel
theorem dX12_best_6 : decode cX12_best 6 = .ok (.istore_n 1, 1) := by decide +kernel
theorem dX12_best_7 : decode cX12_best 7 = .ok (.aload_n 0, 1) := by decide +kernel
theorem dX12_best_8 : decode cX12_best 8 = .ok (.iconst (-1), 1) := by decide +kernel
theorem dX12_best_9 : decode cX12_best 9 = .ok (.invokevirtual 505, 3) := by decide +kernel
theorem dX12_best_12 : decode cX12_best 12 = .ok (.istore_n 2, 1) := by decide +kernel
theorem dX12_best_13 : decode cX12_best 13 = .ok (.iconst 0, 1) := by decide +kernel
theorem dX12_best_14 : decode cX12_best 14 = .ok (.istore_n 3, 1) := by decide +kernel
theorem dX12_best_15 : decode cX12_best 15 = .ok (.iload_n 3, 1) := by decide +kernel
theorem dX12_best_16 : decode cX12_best 16 = .ok (.aload_n 0, 1) := by decide +kernel
theorem dX12_best_17 : decode cX12_best 17 = .ok (.getfield 348, 3) := by decide +kernel
theorem dX12_best_20 : decode cX12_best 20 = .ok (.if_icmp .ge 30, 3) := by decide +kernel
theorem dX12_best_23 : decode cX12_best 23 = .ok (.aload_n 0, 1) := by decide +kernel
theorem dX12_best_24 : decode cX12_best 24 = .ok (.iload_n 3, 1) := by decide +kernel
theorem dX12_best_25 : decode cX12_best 25 = .ok (.invokevirtual 505, 3) := by decide +kernel
theorem dX12_best_28 : decode cX12_best 28 = .ok (.istore 4, 2) := by decide +kernel
theorem dX12_best_30 : decode cX12_best 30 = .ok (.iload 4, 2) := by decide +kernel
theorem dX12_best_32 : decode cX12_best 32 = .ok (.iload_n 2, 1) := by decide +kernel
theorem dX12_best_33 : decode cX12_best 33 = .ok (.if_icmp .gt 6, 3) := by decide +kernel
theorem dX12_best_36 : decode cX12_best 36 = .ok (.goto 8, 3) := by decide +kernel
theorem dX12_best_39 : decode cX12_best 39 = .ok (.iload_n 3, 1) := by decide +kernel
theorem dX12_best_40 : decode cX12_best 40 = .ok (.istore_n 1, 1) := by decide +kernel
theorem dX12_best_41 : decode cX12_best 41 = .ok (.iload 4, 2) := by decide +kernel
theorem dX12_best_43 : decode cX12_best 43 = .ok (.istore_n 2, 1) := by decide +kernel
theorem dX12_best_44 : decode cX12_best 44 = .ok (.iinc 3 1, 3) := by decide +kernel
theorem dX12_best_47 : decode cX12_best 47 = .ok (.goto (-32), 3) := by decide +kernel
theorem dX12_best_50 : decode cX12_best 50 = .ok (.iload_n 1, 1) := by decide +kernel
theorem dX12_best_51 : decode cX12_best 51 = .ok (.ireturn, 1) := by decide +kernel
theorem dX12_quarrels_0 : decode cX12_quarrels 0 = .ok (.aload_n 0, 1) := by decide +kernel
theorem dX12_quarrels_1 : decode cX12_quarrels 1 = .ok (.iconst 0, 1) := by decide +kernel
theorem dX12_quarrels_2 : decode cX12_quarrels 2 = .ok (.putfield 159, 3) := by decide +kernel
theorem dX12_quarrels_5 : decode cX12_quarrels 5 = .ok (.aload_n 0, 1) := by decide +kernel
theorem dX12_quarrels_6 : decode cX12_quarrels 6 = .ok (.iload_n 1, 1) := by decide +kernel
theorem dX12_quarrels_7 : decode cX12_quarrels 7 = .ok (.invokevirtual 502, 3) := by decide +kernel
theorem dX12_quarrels_10 : decode cX12_quarrels 10 = .ok (.ifCond .ne 5, 3) := by decide +kernel
theorem dX12_quarrels_13 : decode cX12_quarrels 13 = .ok (.iconst 0, 1) := by decide +kernel
theorem dX12_quarrels_14 : decode cX12_quarrels 14 = .ok (.ireturn, 1) := by decide +kernel
theorem dX12_quarrels_15 : decode cX12_quarrels 15 = .ok (.aload_n 0, 1) := by decide +kernel
theorem dX12_quarrels_16 : decode cX12_quarrels 16 = .ok (.sipush 240, 3) := by decide +kernel
theorem dX12_quarrels_19 : decode cX12_quarrels 19 = .ok (.iload_n 1, 1) := by decide +kernel
theorem dX12_quarrels_20 : decode cX12_quarrels 20 = .ok (.invokevirtual 391, 3) := by decide +kernel
theorem dX12_quarrels_23 : decode cX12_quarrels 23 = .ok (.aload_n 0, 1) := by decide +kernel
theorem dX12_quarrels_24 : decode cX12_quarrels 24 = .ok (.getfield 378, 3) := by decide +kernel
theorem dX12_quarrels_27 : decode cX12_quarrels 27 = .ok (.ireturn, 1) := by decide +kernel
theorem dX12_mooring_0 : decode cX12_mooring 0 = .ok (.aload_n 0, 1) := by decide +kernel
theorem dX12_mooring_1 : decode cX12_mooring 1 = .ok (.iconst 0, 1) := by decide +kernel
theorem dX12_mooring_2 : decode cX12_mooring 2 = .ok (.putfield 159, 3) := by decide +kernel
theorem dX12_mooring_5 : decode cX12_mooring 5 = .ok (.aload_n 0, 1) := by decide +kernel
theorem dX12_mooring_6 : decode cX12_mooring 6 = .ok (.iload_n 1, 1) := by decide +kernel
theorem dX12_mooring_7 : decode cX12_mooring 7 = .ok (.invokevirtual 433, 3) := by decide +kernel
theorem dX12_mooring_10 : decode cX12_mooring 10 = .ok (.ifCond .eq 20, 3) := by decide +kernel
theorem dX12_mooring_13 : decode cX12_mooring 13 = .ok (.aload_n 0, 1) := by decide +kernel
theorem dX12_mooring_14 : decode cX12_mooring 14 = .ok (.iload_n 2, 1) := by decide +kernel
theorem dX12_mooring_15 : decode cX12_mooring 15 = .ok (.invokevirtual 448, 3) := by decide +kernel
theorem dX12_mooring_18 : decode cX12_mooring 18 = .ok (.ifCond .eq 12, 3) := by decide +kernel
theorem dX12_mooring_21 : decode cX12_mooring 21 = .ok (.aload_n 0, 1) := by decide +kernel
theorem dX12_mooring_22 : decode cX12_mooring 22 = .ok (.iload_n 3, 1) := by decide +kernel
theorem dX12_mooring_23 : decode cX12_mooring 23 = .ok (.iconst 1, 1) := by decide +kernel
theorem dX12_mooring_24 : decode cX12_mooring 24 = .ok (.invokevirtual 427, 3) := by decide +kernel
theorem dX12_mooring_27 : decode cX12_mooring 27 = .ok (.ifCond .ne 5, 3) := by decide +kernel
theorem dX12_mooring_30 : decode cX12_mooring 30 = .ok (.iconst 0, 1) := by decide +kernel
theorem dX12_mooring_31 : decode cX12_mooring 31 = .ok (.ireturn, 1) := by decide +kernel
theorem dX12_mooring_32 : decode cX12_mooring 32 = .ok (.aload_n 0, 1) := by decide +kernel
theorem dX12_mooring_33 : decode cX12_mooring 33 = .ok (.invokevirtual 436, 3) := by decide +kernel
theorem dX12_mooring_36 : decode cX12_mooring 36 = .ok (.iconst (-1), 1) := by decide +kernel
theorem dX12_mooring_37 : decode cX12_mooring 37 = .ok (.istore 4, 2) := by decide +kernel
theorem dX12_mooring_39 : decode cX12_mooring 39 = .ok (.iconst (-1), 1) := by decide +kernel
theorem dX12_mooring_40 : decode cX12_mooring 40 = .ok (.istore 5, 2) := by decide +kernel
theorem dX12_mooring_42 : decode cX12_mooring 42 = .ok (.iconst 0, 1) := by decide +kernel
theorem dX12_mooring_43 : decode cX12_mooring 43 = .ok (.istore 6, 2) := by decide +kernel
theorem dX12_mooring_45 : decode cX12_mooring 45 = .ok (.iload 6, 2) := by decide +kernel
theorem dX12_mooring_47 : decode cX12_mooring 47 = .ok (.aload_n 0, 1) := by decide +kernel
theorem dX12_mooring_48 : decode cX12_mooring 48 = .ok (.invokevirtual 460, 3) := by decide +kernel
theorem dX12_mooring_51 : decode cX12_mooring 51 = .ok (.if_icmp .ge 61, 3) := by decide +kernel
theorem dX12_mooring_54 : decode cX12_mooring 54 = .ok (.aload_n 0, 1) := by decide +kernel
theorem dX12_mooring_55 : decode cX12_mooring 55 = .ok (.iload 6, 2) := by decide +kernel
theorem dX12_mooring_57 : decode cX12_mooring 57 = .ok (.iconst 5, 1) := by decide +kernel
theorem dX12_mooring_58 : decode cX12_mooring 58 = .ok (.aload_n 0, 1) := by decide +kernel
theorem dX12_mooring_59 : decode cX12_mooring 59 = .ok (.getfield 342, 3) := by decide +kernel
theorem dX12_mooring_62 : decode cX12_mooring 62 = .ok (.iload_n 1, 1) := by decide +kernel
theorem dX12_mooring_63 : decode cX12_mooring 63 = .ok (.invokevirtual 463, 3) := by decide +kernel
theorem dX12_mooring_66 : decode cX12_mooring 66 = .ok (.ifCond .ne 6, 3) := by decide +kernel
theorem dX12_mooring_69 : decode cX12_mooring 69 = .ok (.goto 37, 3) := by decide +kernel
theorem dX12_mooring_72 : decode cX12_mooring 72 = .ok (.aload_n 0, 1) := by decide +kernel
theorem dX12_mooring_73 : decode cX12_mooring 73 = .ok (.iload 6, 2) := by decide +kernel
theorem dX12_mooring_75 : decode cX12_mooring 75 = .ok (.iload_n 2, 1) := by decide +kernel
theorem dX12_mooring_76 : decode cX12_mooring 76 = .ok (.aload_n 0, 1) := by decide +kernel
theorem dX12_mooring_77 : decode cX12_mooring 77 = .ok (.iload_n 2, 1) := by decide +kernel
theorem dX12_mooring_78 : decode cX12_mooring 78 = .ok (.invokevirtual 407, 3) := by decide +kernel
theorem dX12_mooring_81 : decode cX12_mooring 81 = .ok (.bipush 31, 2) := by decide +kernel
theorem dX12_mooring_83 : decode cX12_mooring 83 = .ok (.invokevirtual 413, 3) := by decide +kernel
theorem dX12_mooring_86 : decode cX12_mooring 86 = .ok (.istore 7, 2) := by decide +kernel
theorem dX12_mooring_88 : decode cX12_mooring 88 = .ok (.iload 7, 2) := by decide +kernel
theorem dX12_mooring_90 : decode cX12_mooring 90 = .ok (.iload 5, 2) := by decide +kernel
theorem dX12_mooring_92 : decode cX12_mooring 92 = .ok (.if_icmp .gt 6, 3) := by decide +kernel
theorem dX12_mooring_95 : decode cX12_mooring 95 = .ok (.goto 11, 3) := by decide +kernel
theorem dX12_mooring_98 : decode cX12_mooring 98 = .ok (.iload 6, 2) := by decide +kernel
theorem dX12_mooring_100 : decode cX12_mooring 100 = .ok (.istore 4, 2) := by decide +kernel
theorem dX12_mooring_102 : decode cX12_mooring 102 = .ok (.iload 7, 2) := by decide +kernel
theorem dX12_mooring_104 : decode cX12_mooring 104 = .ok (.istore 5, 2) := by decide +kernel
theorem dX12_mooring_106 : decode cX12_mooring 106 = .ok (.iinc 6 1, 3) := by decide +kernel
theorem dX12_mooring_109 : decode cX12_mooring 109 = .ok (.goto (-64), 3) := by decide +kernel
theorem dX12_mooring_112 : decode cX12_mooring 112 = .ok (.iload_n 3, 1) := by decide +kernel
theorem dX12_mooring_113 : decode cX12_mooring 113 = .ok (.ifCond .ne 8, 3) := by decide +kernel
theorem dX12_mooring_116 : decode cX12_mooring 116 = .ok (.iload 4, 2) := by decide +kernel
theorem dX12_mooring_118 : decode cX12_mooring 118 = .ok (.goto 5, 3) := by decide +kernel
theorem dX12_mooring_121 : decode cX12_mooring 121 = .ok (.iload 5, 2) := by decide +kernel
theorem dX12_mooring_123 : decode cX12_mooring 123 = .ok (.ireturn, 1) := by decide +kernel
theorem dX12_log_0 : decode cX12_log 0 = .ok (.aload_n 0, 1) := by decide +kernel
theorem dX12_log_1 : decode cX12_log 1 = .ok (.iconst 0, 1) := by decide +kernel
theorem dX12_log_2 : decode cX12_log 2 = .ok (.putfield 159, 3) := by decide +kernel
theorem dX12_log_5 : decode cX12_log 5 = .ok (.aload_n 0, 1) := by decide +kernel
theorem dX12_log_6 : decode cX12_log 6 = .ok (.iload_n 1, 1) := by decide +kernel
theorem dX12_log_7 : decode cX12_log 7 = .ok (.invokevirtual 433, 3) := by decide +kernel
theorem dX12_log_10 : decode cX12_log 10 = .ok (.ifCond .eq 19, 3) := by decide +kernel
theorem dX12_log_13 : decode cX12_log 13 = .ok (.aload_n 0, 1) := by decide +kernel
theorem dX12_log_14 : decode cX12_log 14 = .ok (.iload_n 2, 1) := by decide +kernel
theorem dX12_log_15 : decode cX12_log 15 = .ok (.invokevirtual 445, 3) := by decide +kernel
theorem dX12_log_18 : decode cX12_log 18 = .ok (.ifCond .eq 11, 3) := by decide +kernel
theorem dX12_log_21 : decode cX12_log 21 = .ok (.aload_n 0, 1) := by decide +kernel
theorem dX12_log_22 : decode cX12_log 22 = .ok (.iload_n 3, 1) := by decide +kernel
theorem dX12_log_23 : decode cX12_log 23 = .ok (.invokevirtual 424, 3) := by decide +kernel
theorem dX12_log_26 : decode cX12_log 26 = .ok (.ifCond .ne 5, 3) := by decide +kernel
theorem dX12_log_29 : decode cX12_log 29 = .ok (.iconst 0, 1) := by decide +kernel
theorem dX12_log_30 : decode cX12_log 30 = .ok (.ireturn, 1) := by decide +kernel
theorem dX12_log_31 : decode cX12_log 31 = .ok (.aload_n 0, 1) := by decide +kernel
theorem dX12_log_32 : decode cX12_log 32 = .ok (.getfield 358, 3) := by decide +kernel
theorem dX12_log_35 : decode cX12_log 35 = .ok (.bipush 8, 2) := by decide +kernel
theorem dX12_log_37 : decode cX12_log 37 = .ok (.if_icmp .ne 9, 3) := by decide +kernel
theorem dX12_log_40 : decode cX12_log 40 = .ok (.aload_n 0, 1) := by decide +kernel
theorem dX12_log_41 : decode cX12_log 41 = .ok (.iconst 2, 1) := by decide +kernel
theorem dX12_log_42 : decode cX12_log 42 = .ok (.invokevirtual 457, 3) := by decide +kernel
theorem dX12_log_45 : decode cX12_log 45 = .ok (.ireturn, 1) := by decide +kernel
theorem dX12_log_46 : decode cX12_log 46 = .ok (.iconst 4, 1) := by decide +kernel
theorem dX12_log_47 : decode cX12_log 47 = .ok (.aload_n 0, 1) := by decide +kernel
theorem dX12_log_48 : decode cX12_log 48 = .ok (.getfield 358, 3) := by decide +kernel
theorem dX12_log_51 : decode cX12_log 51 = .ok (.imul, 1) := by decide +kernel
theorem dX12_log_52 : decode cX12_log 52 = .ok (.istore 5, 2) := by decide +kernel
theorem dX12_log_54 : decode cX12_log 54 = .ok (.aload_n 0, 1) := by decide +kernel
theorem dX12_log_55 : decode cX12_log 55 = .ok (.getfield 144, 3) := by decide +kernel
theorem dX12_log_58 : decode cX12_log 58 = .ok (.iload 5, 2) := by decide +kernel
theorem dX12_log_60 : decode cX12_log 60 = .ok (.iload_n 1, 1) := by decide +kernel
theorem dX12_log_61 : decode cX12_log 61 = .ok (.iastore, 1) := by decide +kernel
theorem dX12_log_62 : decode cX12_log 62 = .ok (.aload_n 0, 1) := by decide +kernel
theorem dX12_log_63 : decode cX12_log 63 = .ok (.getfield 144, 3) := by decide +kernel
theorem dX12_log_66 : decode cX12_log 66 = .ok (.iload 5, 2) := by decide +kernel
theorem dX12_log_68 : decode cX12_log 68 = .ok (.iconst 1, 1) := by decide +kernel
theorem dX12_log_69 : decode cX12_log 69 = .ok (.iadd, 1) := by decide +kernel
theorem dX12_log_70 : decode cX12_log 70 = .ok (.iload_n 2, 1) := by decide +kernel
theorem dX12_log_71 : decode cX12_log 71 = .ok (.iastore, 1) := by decide +kernel
theorem dX12_log_72 : decode cX12_log 72 = .ok (.aload_n 0, 1) := by decide +kernel
theorem dX12_log_73 : decode cX12_log 73 = .ok (.getfield 144, 3) := by decide +kernel
theorem dX12_log_76 : decode cX12_log 76 = .ok (.iload 5, 2) := by decide +kernel
theorem dX12_log_78 : decode cX12_log 78 = .ok (.iconst 2, 1) := by decide +kernel
theorem dX12_log_79 : decode cX12_log 79 = .ok (.iadd, 1) := by decide +kernel
theorem dX12_log_80 : decode cX12_log 80 = .ok (.iload_n 3, 1) := by decide +kernel
theorem dX12_log_81 : decode cX12_log 81 = .ok (.iastore, 1) := by decide +kernel
theorem dX12_log_82 : decode cX12_log 82 = .ok (.aload_n 0, 1) := by decide +kernel
theorem dX12_log_83 : decode cX12_log 83 = .ok (.getfield 144, 3) := by decide +kernel
theorem dX12_log_86 : decode cX12_log 86 = .ok (.iload 5, 2) := by decide +kernel
theorem dX12_log_88 : decode cX12_log 88 = .ok (.iconst 3, 1) := by decide +kernel
theorem dX12_log_89 : decode cX12_log 89 = .ok (.iadd, 1) := by decide +kernel
theorem dX12_log_90 : decode cX12_log 90 = .ok (.iload 4, 2) := by decide +kernel
theorem dX12_log_92 : decode cX12_log 92 = .ok (.ifCond .eq 7, 3) := by decide +kernel
theorem dX12_log_95 : decode cX12_log 95 = .ok (.iconst 1, 1) := by decide +kernel
theorem dX12_log_96 : decode cX12_log 96 = .ok (.goto 4, 3) := by decide +kernel
theorem dX12_log_99 : decode cX12_log 99 = .ok (.iconst 0, 1) := by decide +kernel
theorem dX12_log_100 : decode cX12_log 100 = .ok (.iastore, 1) := by decide +kernel
theorem dX12_log_101 : decode cX12_log 101 = .ok (.aload_n 0, 1) := by decide +kernel
theorem dX12_log_102 : decode cX12_log 102 = .ok (.dup, 1) := by decide +kernel
theorem dX12_log_103 : decode cX12_log 103 = .ok (.getfield 358, 3) := by decide +kernel
theorem dX12_log_106 : decode cX12_log 106 = .ok (.iconst 1, 1) := by decide +kernel
theorem dX12_log_107 : decode cX12_log 107 = .ok (.iadd, 1) := by decide +kernel
theorem dX12_log_108 : decode cX12_log 108 = .ok (.putfield 358, 3) := by decide +kernel
theorem dX12_log_111 : decode cX12_log 111 = .ok (.aload_n 0, 1) := by decide +kernel
theorem dX12_log_112 : decode cX12_log 112 = .ok (.getfield 358, 3) := by decide +kernel
theorem dX12_log_115 : decode cX12_log 115 = .ok (.ireturn, 1) := by decide +kernel
theorem dX12_forget_0 : decode cX12_forget 0 = .ok (.aload_n 0, 1) := by decide +kernel
theorem dX12_forget_1 : decode cX12_forget 1 = .ok (.iconst 0, 1) := by decide +kernel
theorem dX12_forget_2 : decode cX12_forget 2 = .ok (.putfield 159, 3) := by decide +kernel
theorem dX12_forget_5 : decode cX12_forget 5 = .ok (.aload_n 0, 1) := by decide +kernel
theorem dX12_forget_6 : decode cX12_forget 6 = .ok (.iconst 0, 1) := by decide +kernel
theorem dX12_forget_7 : decode cX12_forget 7 = .ok (.putfield 358, 3) := by decide +kernel
theorem dX12_forget_10 : decode cX12_forget 10 = .ok (.return_, 1) := by decide +kernel
theorem dX12_falseNow_0 : decode cX12_falseNow 0 = .ok (.aload_n 0, 1) := by decide +kernel
theorem dX12_falseNow_1 : decode cX12_falseNow 1 = .ok (.invokevirtual 436, 3) := by decide +kernel
theorem dX12_falseNow_4 : decode cX12_falseNow 4 = .ok (.iconst 0, 1) := by decide +kernel
theorem dX12_falseNow_5 : decode cX12_falseNow 5 = .ok (.istore_n 1, 1) := by decide +kernel
theorem dX12_falseNow_6 : decode cX12_falseNow 6 = .ok (.iconst 0, 1) := by decide +kernel
theorem dX12_falseNow_7 : decode cX12_falseNow 7 = .ok (.istore_n 2, 1) := by decide +kernel
theorem dX12_falseNow_8 : decode cX12_falseNow 8 = .ok (.iload_n 2, 1) := by decide +kernel
theorem dX12_falseNow_9 : decode cX12_falseNow 9 = .ok (.iconst 4, 1) := by decide +kernel
theorem dX12_falseNow_10 : decode cX12_falseNow 10 = .ok (.aload_n 0, 1) := by decide +kernel
theorem dX12_falseNow_11 : decode cX12_falseNow 11 = .ok (.getfield 358, 3) := by decide +kernel
theorem dX12_falseNow_14 : decode cX12_falseNow 14 = .ok (.imul, 1) := by decide +kernel
theorem dX12_falseNow_15 : decode cX12_falseNow 15 = .ok (.if_icmp .ge 57, 3) := by decide +kernel
theorem dX12_falseNow_18 : decode cX12_falseNow 18 = .ok (.iload_n 1, 1) := by decide +kernel
theorem dX12_falseNow_19 : decode cX12_falseNow 19 = .ok (.aload_n 0, 1) := by decide +kernel
theorem dX12_falseNow_20 : decode cX12_falseNow 20 = .ok (.aload_n 0, 1) := by decide +kernel
theorem dX12_falseNow_21 : decode cX12_falseNow 21 = .ok (.getfield 144, 3) := by decide +kernel
theorem dX12_falseNow_24 : decode cX12_falseNow 24 = .ok (.iload_n 2, 1) := by decide +kernel
theorem dX12_falseNow_25 : decode cX12_falseNow 25 = .ok (.iaload, 1) := by decide +kernel
theorem dX12_falseNow_26 : decode cX12_falseNow 26 = .ok (.aload_n 0, 1) := by decide +kernel
theorem dX12_falseNow_27 : decode cX12_falseNow 27 = .ok (.getfield 144, 3) := by decide +kernel
theorem dX12_falseNow_30 : decode cX12_falseNow 30 = .ok (.iload_n 2, 1) := by decide +kernel
theorem dX12_falseNow_31 : decode cX12_falseNow 31 = .ok (.iconst 1, 1) := by decide +kernel
theorem dX12_falseNow_32 : decode cX12_falseNow 32 = .ok (.iadd, 1) := by decide +kernel
theorem dX12_falseNow_33 : decode cX12_falseNow 33 = .ok (.iaload, 1) := by decide +kernel
theorem dX12_falseNow_34 : decode cX12_falseNow 34 = .ok (.invokevirtual 430, 3) := by decide +kernel
theorem dX12_falseNow_37 : decode cX12_falseNow 37 = .ok (.aload_n 0, 1) := by decide +kernel
theorem dX12_falseNow_38 : decode cX12_falseNow 38 = .ok (.getfield 144, 3) := by decide +kernel
theorem dX12_falseNow_41 : decode cX12_falseNow 41 = .ok (.iload_n 2, 1) := by decide +kernel
theorem dX12_falseNow_42 : decode cX12_falseNow 42 = .ok (.iconst 2, 1) := by decide +kernel
theorem dX12_falseNow_43 : decode cX12_falseNow 43 = .ok (.iadd, 1) := by decide +kernel
theorem dX12_falseNow_44 : decode cX12_falseNow 44 = .ok (.iaload, 1) := by decide +kernel
theorem dX12_falseNow_45 : decode cX12_falseNow 45 = .ok (.ishr, 1) := by decide +kernel
theorem dX12_falseNow_46 : decode cX12_falseNow 46 = .ok (.iconst 1, 1) := by decide +kernel
theorem dX12_falseNow_47 : decode cX12_falseNow 47 = .ok (.iand, 1) := by decide +kernel
theorem dX12_falseNow_48 : decode cX12_falseNow 48 = .ok (.aload_n 0, 1) := by decide +kernel
theorem dX12_falseNow_49 : decode cX12_falseNow 49 = .ok (.getfield 144, 3) := by decide +kernel
theorem dX12_falseNow_52 : decode cX12_falseNow 52 = .ok (.iload_n 2, 1) := by decide +kernel
theorem dX12_falseNow_53 : decode cX12_falseNow 53 = .ok (.iconst 3, 1) := by decide +kernel
theorem dX12_falseNow_54 : decode cX12_falseNow 54 = .ok (.iadd, 1) := by decide +kernel
theorem dX12_falseNow_55 : decode cX12_falseNow 55 = .ok (.iaload, 1) := by decide +kernel
theorem dX12_falseNow_56 : decode cX12_falseNow 56 = .ok (.if_icmp .eq 7, 3) := by decide +kernel
theorem dX12_falseNow_59 : decode cX12_falseNow 59 = .ok (.iconst 1, 1) := by decide +kernel
theorem dX12_falseNow_60 : decode cX12_falseNow 60 = .ok (.goto 4, 3) := by decide +kernel
theorem dX12_falseNow_63 : decode cX12_falseNow 63 = .ok (.iconst 0, 1) := by decide +kernel
theorem dX12_falseNow_64 : decode cX12_falseNow 64 = .ok (.iadd, 1) := by decide +kernel
theorem dX12_falseNow_65 : decode cX12_falseNow 65 = .ok (.istore_n 1, 1) := by decide +kernel
theorem dX12_falseNow_66 : decode cX12_falseNow 66 = .ok (.iinc 2 4, 3) := by decide +kernel
theorem dX12_falseNow_69 : decode cX12_falseNow 69 = .ok (.goto (-61), 3) := by decide +kernel
theorem dX12_falseNow_72 : decode cX12_falseNow 72 = .ok (.iload_n 1, 1) := by decide +kernel
theorem dX12_falseNow_73 : decode cX12_falseNow 73 = .ok (.ireturn, 1) := by decide +kernel
theorem dX12_falsely_0 : decode cX12_falsely 0 = .ok (.aload_n 0, 1) := by decide +kernel
theorem dX12_falsely_1 : decode cX12_falsely 1 = .ok (.iconst 0, 1) := by decide +kernel
theorem dX12_falsely_2 : decode cX12_falsely 2 = .ok (.putfield 159, 3) := by decide +kernel
theorem dX12_falsely_5 : decode cX12_falsely 5 = .ok (.aload_n 0, 1) := by decide +kernel
theorem dX12_falsely_6 : decode cX12_falsely 6 = .ok (.invokevirtual 508, 3) := by decide +kernel
theorem dX12_falsely_9 : decode cX12_falsely 9 = .ok (.ireturn, 1) := by decide +kernel
theorem dX12_begun_0 : decode cX12_begun 0 = .ok (.aload_n 0, 1) := by decide +kernel
theorem dX12_begun_1 : decode cX12_begun 1 = .ok (.iconst 0, 1) := by decide +kernel
theorem dX12_begun_2 : decode cX12_begun 2 = .ok (.putfield 159, 3) := by decide +kernel
theorem dX12_begun_5 : decode cX12_begun 5 = .ok (.aload_n 0, 1) := by decide +kernel
theorem dX12_begun_6 : decode cX12_begun 6 = .ok (.iload_n 1, 1) := by decide +kernel
theorem dX12_begun_7 : decode cX12_begun 7 = .ok (.invokevirtual 424, 3) := by decide +kernel
theorem dX12_begun_10 : decode cX12_begun 10 = .ok (.ifCond .eq 12, 3) := by decide +kernel
theorem dX12_begun_13 : decode cX12_begun 13 = .ok (.aload_n 0, 1) := by decide +kernel
theorem dX12_begun_14 : decode cX12_begun 14 = .ok (.iload_n 2, 1) := by decide +kernel
theorem dX12_begun_15 : decode cX12_begun 15 = .ok (.iconst 2, 1) := by decide +kernel
theorem dX12_begun_16 : decode cX12_begun 16 = .ok (.invokevirtual 427, 3) := by decide +kernel
theorem dX12_begun_19 : decode cX12_begun 19 = .ok (.ifCond .ne 5, 3) := by decide +kernel
theorem dX12_begun_22 : decode cX12_begun 22 = .ok (.iconst 0, 1) := by decide +kernel
theorem dX12_begun_23 : decode cX12_begun 23 = .ok (.ireturn, 1) := by decide +kernel
theorem dX12_begun_24 : decode cX12_begun 24 = .ok (.aload_n 0, 1) := by decide +kernel
theorem dX12_begun_25 : decode cX12_begun 25 = .ok (.getfield 102, 3) := by decide +kernel
theorem dX12_begun_28 : decode cX12_begun 28 = .ok (.bipush 13, 2) := by decide +kernel
theorem dX12_begun_30 : decode cX12_begun 30 = .ok (.iload_n 1, 1) := by decide +kernel
theorem dX12_begun_31 : decode cX12_begun 31 = .ok (.iadd, 1) := by decide +kernel
theorem dX12_begun_32 : decode cX12_begun 32 = .ok (.iaload, 1) := by decide +kernel
theorem dX12_begun_33 : decode cX12_begun 33 = .ok (.istore_n 3, 1) := by decide +kernel
theorem dX12_begun_34 : decode cX12_begun 34 = .ok (.iconst 0, 1) := by decide +kernel
theorem dX12_begun_35 : decode cX12_begun 35 = .ok (.istore 4, 2) := by decide +kernel
theorem dX12_begun_37 : decode cX12_begun 37 = .ok (.iconst (-1), 1) := by decide +kernel
theorem dX12_begun_38 : decode cX12_begun 38 = .ok (.istore 5, 2) := by decide +kernel
theorem dX12_begun_40 : decode cX12_begun 40 = .ok (.bipush 9, 2) := by decide +kernel
theorem dX12_begun_42 : decode cX12_begun 42 = .ok (.istore 6, 2) := by decide +kernel
theorem dX12_begun_44 : decode cX12_begun 44 = .ok (.iconst 0, 1) := by decide +kernel
theorem dX12_begun_45 : decode cX12_begun 45 = .ok (.istore 7, 2) := by decide +kernel
theorem dX12_begun_47 : decode cX12_begun 47 = .ok (.iload 7, 2) := by decide +kernel
theorem dX12_begun_49 : decode cX12_begun 49 = .ok (.aload_n 0, 1) := by decide +kernel
theorem dX12_begun_50 : decode cX12_begun 50 = .ok (.invokevirtual 460, 3) := by decide +kernel
theorem dX12_begun_53 : decode cX12_begun 53 = .ok (.if_icmp .ge 92, 3) := by decide +kernel
theorem dX12_begun_56 : decode cX12_begun 56 = .ok (.aload_n 0, 1) := by decide +kernel
theorem dX12_begun_57 : decode cX12_begun 57 = .ok (.iload 7, 2) := by decide +kernel
theorem dX12_begun_59 : decode cX12_begun 59 = .ok (.bipush 13, 2) := by decide +kernel
theorem dX12_begun_61 : decode cX12_begun 61 = .ok (.aload_n 0, 1) := by decide +kernel
theorem dX12_begun_62 : decode cX12_begun 62 = .ok (.getfield 339, 3) := by decide +kernel
theorem dX12_begun_65 : decode cX12_begun 65 = .ok (.iload_n 1, 1) := by decide +kernel
theorem dX12_begun_66 : decode cX12_begun 66 = .ok (.invokevirtual 463, 3) := by decide +kernel
theorem dX12_begun_69 : decode cX12_begun 69 = .ok (.ifCond .ne 6, 3) := by decide +kernel
theorem dX12_begun_72 : decode cX12_begun 72 = .ok (.goto 67, 3) := by decide +kernel
theorem dX12_begun_75 : decode cX12_begun 75 = .ok (.aload_n 0, 1) := by decide +kernel
theorem dX12_begun_76 : decode cX12_begun 76 = .ok (.getfield 102, 3) := by decide +kernel
theorem dX12_begun_79 : decode cX12_begun 79 = .ok (.bipush 13, 2) := by decide +kernel
theorem dX12_begun_81 : decode cX12_begun 81 = .ok (.iload_n 1, 1) := by decide +kernel
theorem dX12_begun_82 : decode cX12_begun 82 = .ok (.iadd, 1) := by decide +kernel
theorem dX12_begun_83 : decode cX12_begun 83 = .ok (.iload 7, 2) := by decide +kernel
theorem dX12_begun_85 : decode cX12_begun 85 = .ok (.iastore, 1) := by decide +kernel
theorem dX12_begun_86 : decode cX12_begun 86 = .ok (.aload_n 0, 1) := by decide +kernel
theorem dX12_begun_87 : decode cX12_begun 87 = .ok (.invokevirtual 508, 3) := by decide +kernel
theorem dX12_begun_90 : decode cX12_begun 90 = .ok (.istore 8, 2) := by decide +kernel
theorem dX12_begun_92 : decode cX12_begun 92 = .ok (.aload_n 0, 1) := by decide +kernel
theorem dX12_begun_93 : decode cX12_begun 93 = .ok (.getfield 102, 3) := by decide +kernel
theorem dX12_begun_96 : decode cX12_begun 96 = .ok (.bipush 13, 2) := by decide +kernel
theorem dX12_begun_98 : decode cX12_begun 98 = .ok (.iload_n 1, 1) := by decide +kernel
theorem dX12_begun_99 : decode cX12_begun 99 = .ok (.iadd, 1) := by decide +kernel
theorem dX12_begun_100 : decode cX12_begun 100 = .ok (.iload_n 3, 1) := by decide +kernel
theorem dX12_begun_101 : decode cX12_begun 101 = .ok (.iastore, 1) := by decide +kernel
theorem dX12_begun_102 : decode cX12_begun 102 = .ok (.iload 8, 2) := by decide +kernel
theorem dX12_begun_104 : decode cX12_begun 104 = .ok (.iload 6, 2) := by decide +kernel
theorem dX12_begun_106 : decode cX12_begun 106 = .ok (.if_icmp .ge 8, 3) := by decide +kernel
theorem dX12_begun_109 : decode cX12_begun 109 = .ok (.iload 8, 2) := by decide +kernel
theorem dX12_begun_111 : decode cX12_begun 111 = .ok (.goto 5, 3) := by decide +kernel
theorem dX12_begun_114 : decode cX12_begun 114 = .ok (.iload 6, 2) := by decide +kernel
theorem dX12_begun_116 : decode cX12_begun 116 = .ok (.istore 6, 2) := by decide +kernel
theorem dX12_begun_118 : decode cX12_begun 118 = .ok (.iload 8, 2) := by decide +kernel
theorem dX12_begun_120 : decode cX12_begun 120 = .ok (.ifCond .le 6, 3) := by decide +kernel
theorem dX12_begun_123 : decode cX12_begun 123 = .ok (.goto 16, 3) := by decide +kernel
theorem dX12_begun_126 : decode cX12_begun 126 = .ok (.iinc 4 1, 3) := by decide +kernel
theorem dX12_begun_129 : decode cX12_begun 129 = .ok (.iload 5, 2) := by decide +kernel
theorem dX12_begun_131 : decode cX12_begun 131 = .ok (.iconst (-1), 1) := by decide +kernel
theorem dX12_begun_132 : decode cX12_begun 132 = .ok (.if_icmp .ne 7, 3) := by decide +kernel
theorem dX12_begun_135 : decode cX12_begun 135 = .ok (.iload 7, 2) := by decide +kernel
theorem dX12_begun_137 : decode cX12_begun 137 = .ok (.istore 5, 2) := by decide +kernel
theorem dX12_begun_139 : decode cX12_begun 139 = .ok (.iinc 7 1, 3) := by decide +kernel
theorem dX12_begun_142 : decode cX12_begun 142 = .ok (.goto (-95), 3) := by decide +kernel
theorem dX12_begun_145 : decode cX12_begun 145 = .ok (.iload_n 2, 1) := by decide +kernel
theorem dX12_begun_146 : decode cX12_begun 146 = .ok (.ifCond .ne 8, 3) := by decide +kernel
theorem dX12_begun_149 : decode cX12_begun 149 = .ok (.iload 4, 2) := by decide +kernel
theorem dX12_begun_151 : decode cX12_begun 151 = .ok (.goto 15, 3) := by decide +kernel
theorem dX12_begun_154 : decode cX12_begun 154 = .ok (.iload_n 2, 1) := by decide +kernel
theorem dX12_begun_155 : decode cX12_begun 155 = .ok (.iconst 1, 1) := by decide +kernel
theorem dX12_begun_156 : decode cX12_begun 156 = .ok (.if_icmp .ne 8, 3) := by decide +kernel
theorem dX12_begun_159 : decode cX12_begun 159 = .ok (.iload 5, 2) := by decide +kernel
theorem dX12_begun_161 : decode cX12_begun 161 = .ok (.goto 5, 3) := by decide +kernel
theorem dX12_begun_164 : decode cX12_begun 164 = .ok (.iload 6, 2) := by decide +kernel
theorem dX12_begun_166 : decode cX12_begun 166 = .ok (.ireturn, 1) := by decide +kernel
theorem dX12_gains_0 : decode cX12_gains 0 = .ok (.iconst 0, 1) := by decide +kernel
theorem dX12_gains_1 : decode cX12_gains 1 = .ok (.istore 7, 2) := by decide +kernel
theorem dX12_gains_3 : decode cX12_gains 3 = .ok (.iconst 0, 1) := by decide +kernel
theorem dX12_gains_4 : decode cX12_gains 4 = .ok (.istore 8, 2) := by decide +kernel
theorem dX12_gains_6 : decode cX12_gains 6 = .ok (.iload 8, 2) := by decide +kernel
theorem dX12_gains_8 : decode cX12_gains 8 = .ok (.aload_n 0, 1) := by decide +kernel
theorem dX12_gains_9 : decode cX12_gains 9 = .ok (.getfield 342, 3) := by decide +kernel
theorem dX12_gains_12 : decode cX12_gains 12 = .ok (.if_icmp .ge 183, 3) := by decide +kernel
theorem dX12_gains_15 : decode cX12_gains 15 = .ok (.iconst 0, 1) := by decide +kernel
theorem dX12_gains_16 : decode cX12_gains 16 = .ok (.istore 9, 2) := by decide +kernel
theorem dX12_gains_18 : decode cX12_gains 18 = .ok (.bipush 24, 2) := by decide +kernel
theorem dX12_gains_20 : decode cX12_gains 20 = .ok (.iload 5, 2) := by decide +kernel
theorem dX12_gains_22 : decode cX12_gains 22 = .ok (.imul, 1) := by decide +kernel
theorem dX12_gains_23 : decode cX12_gains 23 = .ok (.bipush 12, 2) := by decide +kernel
theorem dX12_gains_25 : decode cX12_gains 25 = .ok (.iadd, 1) := by decide +kernel
theorem dX12_gains_26 : decode cX12_gains 26 = .ok (.istore 10, 2) := by decide +kernel
theorem dX12_gains_28 : decode cX12_gains 28 = .ok (.iload 10, 2) := by decide +kernel
theorem dX12_gains_30 : decode cX12_gains 30 = .ok (.bipush 24, 2) := by decide +kernel
theorem dX12_gains_32 : decode cX12_gains 32 = .ok (.iload 5, 2) := by decide +kernel
theorem dX12_gains_34 : decode cX12_gains 34 = .ok (.imul, 1) := by decide +kernel
theorem dX12_gains_35 : decode cX12_gains 35 = .ok (.bipush 24, 2) := by decide +kernel
theorem dX12_gains_37 : decode cX12_gains 37 = .ok (.iadd, 1) := by decide +kernel
theorem dX12_gains_38 : decode cX12_gains 38 = .ok (.if_icmp .ge 136, 3) := by decide +kernel
theorem dX12_gains_41 : decode cX12_gains 41 = .ok (.aload_n 0, 1) := by decide +kernel
theorem dX12_gains_42 : decode cX12_gains 42 = .ok (.iload 5, 2) := by decide +kernel
theorem dX12_gains_44 : decode cX12_gains 44 = .ok (.invokevirtual 407, 3) := by decide +kernel
theorem dX12_gains_47 : decode cX12_gains 47 = .ok (.istore 11, 2) := by decide +kernel
theorem dX12_gains_49 : decode cX12_gains 49 = .ok (.aload_n 0, 1) := by decide +kernel
theorem dX12_gains_50 : decode cX12_gains 50 = .ok (.iload 8, 2) := by decide +kernel
theorem dX12_gains_52 : decode cX12_gains 52 = .ok (.iload 10, 2) := by decide +kernel
theorem dX12_gains_54 : decode cX12_gains 54 = .ok (.invokevirtual 430, 3) := by decide +kernel
theorem dX12_gains_57 : decode cX12_gains 57 = .ok (.iconst 1, 1) := by decide +kernel
theorem dX12_gains_58 : decode cX12_gains 58 = .ok (.iload_n 1, 1) := by decide +kernel
theorem dX12_gains_59 : decode cX12_gains 59 = .ok (.ishl, 1) := by decide +kernel
theorem dX12_gains_60 : decode cX12_gains 60 = .ok (.iconst (-1), 1) := by decide +kernel
theorem dX12_gains_61 : decode cX12_gains 61 = .ok (.ixor, 1) := by decide +kernel
theorem dX12_gains_62 : decode cX12_gains 62 = .ok (.iand, 1) := by decide +kernel
theorem dX12_gains_63 : decode cX12_gains 63 = .ok (.iconst 1, 1) := by decide +kernel
theorem dX12_gains_64 : decode cX12_gains 64 = .ok (.iload_n 3, 1) := by decide +kernel
theorem dX12_gains_65 : decode cX12_gains 65 = .ok (.ishl, 1) := by decide +kernel
theorem dX12_gains_66 : decode cX12_gains 66 = .ok (.iconst (-1), 1) := by decide +kernel
theorem dX12_gains_67 : decode cX12_gains 67 = .ok (.ixor, 1) := by decide +kernel
theorem dX12_gains_68 : decode cX12_gains 68 = .ok (.iand, 1) := by decide +kernel
theorem dX12_gains_69 : decode cX12_gains 69 = .ok (.istore 12, 2) := by decide +kernel
theorem dX12_gains_71 : decode cX12_gains 71 = .ok (.iload 12, 2) := by decide +kernel
theorem dX12_gains_73 : decode cX12_gains 73 = .ok (.iload_n 2, 1) := by decide +kernel
theorem dX12_gains_74 : decode cX12_gains 74 = .ok (.iconst 1, 1) := by decide +kernel
theorem dX12_gains_75 : decode cX12_gains 75 = .ok (.if_icmp .ne 30, 3) := by decide +kernel
theorem dX12_gains_78 : decode cX12_gains 78 = .ok (.aload_n 0, 1) := by decide +kernel
theorem dX12_gains_79 : decode cX12_gains 79 = .ok (.iload_n 1, 1) := by decide +kernel
theorem dX12_gains_80 : decode cX12_gains 80 = .ok (.iload 10, 2) := by decide +kernel
theorem dX12_gains_82 : decode cX12_gains 82 = .ok (.aload_n 0, 1) := by decide +kernel
theorem dX12_gains_83 : decode cX12_gains 83 = .ok (.getfield 102, 3) := by decide +kernel
theorem dX12_gains_86 : decode cX12_gains 86 = .ok (.iconst 5, 1) := by decide +kernel
theorem dX12_gains_87 : decode cX12_gains 87 = .ok (.iload 8, 2) := by decide +kernel
theorem dX12_gains_89 : decode cX12_gains 89 = .ok (.iadd, 1) := by decide +kernel
theorem dX12_gains_90 : decode cX12_gains 90 = .ok (.iaload, 1) := by decide +kernel
theorem dX12_gains_91 : decode cX12_gains 91 = .ok (.iload 11, 2) := by decide +kernel
theorem dX12_gains_93 : decode cX12_gains 93 = .ok (.invokevirtual 403, 3) := by decide +kernel
theorem dX12_gains_96 : decode cX12_gains 96 = .ok (.ifCond .eq 9, 3) := by decide +kernel
theorem dX12_gains_99 : decode cX12_gains 99 = .ok (.iconst 1, 1) := by decide +kernel
theorem dX12_gains_100 : decode cX12_gains 100 = .ok (.iload_n 1, 1) := by decide +kernel
theorem dX12_gains_101 : decode cX12_gains 101 = .ok (.ishl, 1) := by decide +kernel
theorem dX12_gains_102 : decode cX12_gains 102 = .ok (.goto 4, 3) := by decide +kernel
theorem dX12_gains_105 : decode cX12_gains 105 = .ok (.iconst 0, 1) := by decide +kernel
theorem dX12_gains_106 : decode cX12_gains 106 = .ok (.ior, 1) := by decide +kernel
theorem dX12_gains_107 : decode cX12_gains 107 = .ok (.istore 12, 2) := by decide +kernel
theorem dX12_gains_109 : decode cX12_gains 109 = .ok (.iload 12, 2) := by decide +kernel
theorem dX12_gains_111 : decode cX12_gains 111 = .ok (.iload 4, 2) := by decide +kernel
theorem dX12_gains_113 : decode cX12_gains 113 = .ok (.iconst 1, 1) := by decide +kernel
theorem dX12_gains_114 : decode cX12_gains 114 = .ok (.if_icmp .ne 30, 3) := by decide +kernel
theorem dX12_gains_117 : decode cX12_gains 117 = .ok (.aload_n 0, 1) := by decide +kernel
theorem dX12_gains_118 : decode cX12_gains 118 = .ok (.iload_n 3, 1) := by decide +kernel
theorem dX12_gains_119 : decode cX12_gains 119 = .ok (.iload 10, 2) := by decide +kernel
theorem dX12_gains_121 : decode cX12_gains 121 = .ok (.aload_n 0, 1) := by decide +kernel
theorem dX12_gains_122 : decode cX12_gains 122 = .ok (.getfield 102, 3) := by decide +kernel
theorem dX12_gains_125 : decode cX12_gains 125 = .ok (.iconst 5, 1) := by decide +kernel
theorem dX12_gains_126 : decode cX12_gains 126 = .ok (.iload 8, 2) := by decide +kernel
theorem dX12_gains_128 : decode cX12_gains 128 = .ok (.iadd, 1) := by decide +kernel
theorem dX12_gains_129 : decode cX12_gains 129 = .ok (.iaload, 1) := by decide +kernel
theorem dX12_gains_130 : decode cX12_gains 130 = .ok (.iload 11, 2) := by decide +kernel
theorem dX12_gains_132 : decode cX12_gains 132 = .ok (.invokevirtual 403, 3) := by decide +kernel
theorem dX12_gains_135 : decode cX12_gains 135 = .ok (.ifCond .eq 9, 3) := by decide +kernel
theorem dX12_gains_138 : decode cX12_gains 138 = .ok (.iconst 1, 1) := by decide +kernel
theorem dX12_gains_139 : decode cX12_gains 139 = .ok (.iload_n 3, 1) := by decide +kernel
theorem dX12_gains_140 : decode cX12_gains 140 = .ok (.ishl, 1) := by decide +kernel
theorem dX12_gains_141 : decode cX12_gains 141 = .ok (.goto 4, 3) := by decide +kernel
theorem dX12_gains_144 : decode cX12_gains 144 = .ok (.iconst 0, 1) := by decide +kernel
theorem dX12_gains_145 : decode cX12_gains 145 = .ok (.ior, 1) := by decide +kernel
theorem dX12_gains_146 : decode cX12_gains 146 = .ok (.istore 12, 2) := by decide +kernel
theorem dX12_gains_148 : decode cX12_gains 148 = .ok (.iload 9, 2) := by decide +kernel
theorem dX12_gains_150 : decode cX12_gains 150 = .ok (.ifCond .ne 11, 3) := by decide +kernel
theorem dX12_gains_153 : decode cX12_gains 153 = .ok (.iload 12, 2) := by decide +kernel
theorem dX12_gains_155 : decode cX12_gains 155 = .ok (.iconst 1, 1) := by decide +kernel
theorem dX12_gains_156 : decode cX12_gains 156 = .ok (.iload_n 1, 1) := by decide +kernel
theorem dX12_gains_157 : decode cX12_gains 157 = .ok (.ishl, 1) := by decide +kernel
theorem dX12_gains_158 : decode cX12_gains 158 = .ok (.if_icmp .ne 7, 3) := by decide +kernel
theorem dX12_gains_161 : decode cX12_gains 161 = .ok (.iconst 1, 1) := by decide +kernel
theorem dX12_gains_162 : decode cX12_gains 162 = .ok (.goto 4, 3) := by decide +kernel
theorem dX12_gains_165 : decode cX12_gains 165 = .ok (.iconst 0, 1) := by decide +kernel
theorem dX12_gains_166 : decode cX12_gains 166 = .ok (.istore 9, 2) := by decide +kernel
theorem dX12_gains_168 : decode cX12_gains 168 = .ok (.iinc 10 1, 3) := by decide +kernel
theorem dX12_gains_171 : decode cX12_gains 171 = .ok (.goto (-143), 3) := by decide +kernel
theorem dX12_gains_174 : decode cX12_gains 174 = .ok (.iload 7, 2) := by decide +kernel
theorem dX12_gains_176 : decode cX12_gains 176 = .ok (.iload 9, 2) := by decide +kernel
theorem dX12_gains_178 : decode cX12_gains 178 = .ok (.ifCond .eq 7, 3) := by decide +kernel
theorem dX12_gains_181 : decode cX12_gains 181 = .ok (.iconst 5, 1) := by decide +kernel
theorem dX12_gains_182 : decode cX12_gains 182 = .ok (.goto 4, 3) := by decide +kernel
theorem dX12_gains_185 : decode cX12_gains 185 = .ok (.iconst 0, 1) := by decide +kernel
theorem dX12_gains_186 : decode cX12_gains 186 = .ok (.iadd, 1) := by decide +kernel
theorem dX12_gains_187 : decode cX12_gains 187 = .ok (.istore 7, 2) := by decide +kernel
theorem dX12_gains_189 : decode cX12_gains 189 = .ok (.iinc 8 1, 3) := by decide +kernel
theorem dX12_gains_192 : decode cX12_gains 192 = .ok (.goto (-186), 3) := by decide +kernel
theorem dX12_gains_195 : decode cX12_gains 195 = .ok (.iload 7, 2) := by decide +kernel
theorem dX12_gains_197 : decode cX12_gains 197 = .ok (.iload_n 2, 1) := by decide +kernel
theorem dX12_gains_198 : decode cX12_gains 198 = .ok (.iload 6, 2) := by decide +kernel
theorem dX12_gains_200 : decode cX12_gains 200 = .ok (.imul, 1) := by decide +kernel
theorem dX12_gains_201 : decode cX12_gains 201 = .ok (.isub, 1) := by decide +kernel
theorem dX12_gains_202 : decode cX12_gains 202 = .ok (.ireturn, 1) := by decide +kernel
theorem dX12_game_0 : decode cX12_game 0 = .ok (.aload_n 0, 1) := by decide +kernel
theorem dX12_game_1 : decode cX12_game 1 = .ok (.iconst 0, 1) := by decide +kernel
theorem dX12_game_2 : decode cX12_game 2 = .ok (.putfield 159, 3) := by decide +kernel
theorem dX12_game_5 : decode cX12_game 5 = .ok (.aload_n 0, 1) := by decide +kernel
theorem dX12_game_6 : decode cX12_game 6 = .ok (.iload_n 1, 1) := by decide +kernel
theorem dX12_game_7 : decode cX12_game 7 = .ok (.invokevirtual 424, 3) := by decide +kernel
theorem dX12_game_10 : decode cX12_game 10 = .ok (.ifCond .eq 58, 3) := by decide +kernel
theorem dX12_game_13 : decode cX12_game 13 = .ok (.aload_n 0, 1) := by decide +kernel
theorem dX12_game_14 : decode cX12_game 14 = .ok (.iload_n 2, 1) := by decide +kernel
theorem dX12_game_15 : decode cX12_game 15 = .ok (.invokevirtual 424, 3) := by decide +kernel
theorem dX12_game_18 : decode cX12_game 18 = .ok (.ifCond .eq 50, 3) := by decide +kernel
theorem dX12_game_21 : decode cX12_game 21 = .ok (.aload_n 0, 1) := by decide +kernel
theorem dX12_game_22 : decode cX12_game 22 = .ok (.iload_n 3, 1) := by decide +kernel
theorem dX12_game_23 : decode cX12_game 23 = .ok (.invokevirtual 448, 3) := by decide +kernel
theorem dX12_game_26 : decode cX12_game 26 = .ok (.ifCond .eq 42, 3) := by decide +kernel
theorem dX12_game_29 : decode cX12_game 29 = .ok (.aload_n 0, 1) := by decide +kernel
theorem dX12_game_30 : decode cX12_game 30 = .ok (.iload 5, 2) := by decide +kernel
theorem dX12_game_32 : decode cX12_game 32 = .ok (.iconst 1, 1) := by decide +kernel
theorem dX12_game_33 : decode cX12_game 33 = .ok (.invokevirtual 427, 3) := by decide +kernel
theorem dX12_game_36 : decode cX12_game 36 = .ok (.ifCond .eq 32, 3) := by decide +kernel
theorem dX12_game_39 : decode cX12_game 39 = .ok (.aload_n 0, 1) := by decide +kernel
theorem dX12_game_40 : decode cX12_game 40 = .ok (.iload_n 1, 1) := by decide +kernel
theorem dX12_game_41 : decode cX12_game 41 = .ok (.iload_n 2, 1) := by decide +kernel
theorem dX12_game_42 : decode cX12_game 42 = .ok (.if_icmp .eq 18, 3) := by decide +kernel
theorem dX12_game_45 : decode cX12_game 45 = .ok (.iload 4, 2) := by decide +kernel
theorem dX12_game_47 : decode cX12_game 47 = .ok (.iconst 0, 1) := by decide +kernel
theorem dX12_game_48 : decode cX12_game 48 = .ok (.bipush 99, 2) := by decide +kernel
theorem dX12_game_50 : decode cX12_game 50 = .ok (.invokestatic 420, 3) := by decide +kernel
theorem dX12_game_53 : decode cX12_game 53 = .ok (.ifCond .eq 7, 3) := by decide +kernel
theorem dX12_game_56 : decode cX12_game 56 = .ok (.iconst 1, 1) := by decide +kernel
theorem dX12_game_57 : decode cX12_game 57 = .ok (.goto 4, 3) := by decide +kernel
theorem dX12_game_60 : decode cX12_game 60 = .ok (.iconst 0, 1) := by decide +kernel
theorem dX12_game_61 : decode cX12_game 61 = .ok (.iconst 2, 1) := by decide +kernel
theorem dX12_game_62 : decode cX12_game 62 = .ok (.invokevirtual 329, 3) := by decide +kernel
theorem dX12_game_65 : decode cX12_game 65 = .ok (.ifCond .ne 5, 3) := by decide +kernel
theorem dX12_game_68 : decode cX12_game 68 = .ok (.iconst 0, 1) := by decide +kernel
theorem dX12_game_69 : decode cX12_game 69 = .ok (.ireturn, 1) := by decide +kernel
theorem dX12_game_70 : decode cX12_game 70 = .ok (.aload_n 0, 1) := by decide +kernel
theorem dX12_game_71 : decode cX12_game 71 = .ok (.invokevirtual 436, 3) := by decide +kernel
theorem dX12_game_74 : decode cX12_game 74 = .ok (.iconst 0, 1) := by decide +kernel
theorem dX12_game_75 : decode cX12_game 75 = .ok (.istore 6, 2) := by decide +kernel
theorem dX12_game_77 : decode cX12_game 77 = .ok (.iconst (-1), 1) := by decide +kernel
theorem dX12_game_78 : decode cX12_game 78 = .ok (.istore 7, 2) := by decide +kernel
theorem dX12_game_80 : decode cX12_game 80 = .ok (.iconst 0, 1) := by decide +kernel
theorem dX12_game_81 : decode cX12_game 81 = .ok (.istore 8, 2) := by decide +kernel
theorem dX12_game_83 : decode cX12_game 83 = .ok (.iload 8, 2) := by decide +kernel
theorem dX12_game_85 : decode cX12_game 85 = .ok (.iconst 4, 1) := by decide +kernel
theorem dX12_game_86 : decode cX12_game 86 = .ok (.if_icmp .ge 105, 3) := by decide +kernel
theorem dX12_game_89 : decode cX12_game 89 = .ok (.iload 8, 2) := by decide +kernel
theorem dX12_game_91 : decode cX12_game 91 = .ok (.iconst 2, 1) := by decide +kernel
theorem dX12_game_92 : decode cX12_game 92 = .ok (.idiv, 1) := by decide +kernel
theorem dX12_game_93 : decode cX12_game 93 = .ok (.istore 9, 2) := by decide +kernel
theorem dX12_game_95 : decode cX12_game 95 = .ok (.iload 8, 2) := by decide +kernel
theorem dX12_game_97 : decode cX12_game 97 = .ok (.iconst 2, 1) := by decide +kernel
theorem dX12_game_98 : decode cX12_game 98 = .ok (.irem, 1) := by decide +kernel
theorem dX12_game_99 : decode cX12_game 99 = .ok (.istore 10, 2) := by decide +kernel
theorem dX12_game_101 : decode cX12_game 101 = .ok (.aload_n 0, 1) := by decide +kernel
theorem dX12_game_102 : decode cX12_game 102 = .ok (.iload_n 1, 1) := by decide +kernel
theorem dX12_game_103 : decode cX12_game 103 = .ok (.iconst 1, 1) := by decide +kernel
theorem dX12_game_104 : decode cX12_game 104 = .ok (.iload 9, 2) := by decide +kernel
theorem dX12_game_106 : decode cX12_game 106 = .ok (.isub, 1) := by decide +kernel
theorem dX12_game_107 : decode cX12_game 107 = .ok (.iload_n 2, 1) := by decide +kernel
theorem dX12_game_108 : decode cX12_game 108 = .ok (.iload 10, 2) := by decide +kernel
theorem dX12_game_110 : decode cX12_game 110 = .ok (.iload_n 3, 1) := by decide +kernel
theorem dX12_game_111 : decode cX12_game 111 = .ok (.iload 4, 2) := by decide +kernel
theorem dX12_game_113 : decode cX12_game 113 = .ok (.invokevirtual 511, 3) := by decide +kernel
theorem dX12_game_116 : decode cX12_game 116 = .ok (.aload_n 0, 1) := by decide +kernel
theorem dX12_game_117 : decode cX12_game 117 = .ok (.iload_n 1, 1) := by decide +kernel
theorem dX12_game_118 : decode cX12_game 118 = .ok (.iload 9, 2) := by decide +kernel
theorem dX12_game_120 : decode cX12_game 120 = .ok (.iload_n 2, 1) := by decide +kernel
theorem dX12_game_121 : decode cX12_game 121 = .ok (.iload 10, 2) := by decide +kernel
theorem dX12_game_123 : decode cX12_game 123 = .ok (.iload_n 3, 1) := by decide +kernel
theorem dX12_game_124 : decode cX12_game 124 = .ok (.iload 4, 2) := by decide +kernel
theorem dX12_game_126 : decode cX12_game 126 = .ok (.invokevirtual 511, 3) := by decide +kernel
theorem dX12_game_129 : decode cX12_game 129 = .ok (.if_icmp .gt 56, 3) := by decide +kernel
theorem dX12_game_132 : decode cX12_game 132 = .ok (.aload_n 0, 1) := by decide +kernel
theorem dX12_game_133 : decode cX12_game 133 = .ok (.iload_n 2, 1) := by decide +kernel
theorem dX12_game_134 : decode cX12_game 134 = .ok (.iconst 1, 1) := by decide +kernel
theorem dX12_game_135 : decode cX12_game 135 = .ok (.iload 10, 2) := by decide +kernel
theorem dX12_game_137 : decode cX12_game 137 = .ok (.isub, 1) := by decide +kernel
theorem dX12_game_138 : decode cX12_game 138 = .ok (.iload_n 1, 1) := by decide +kernel
theorem dX12_game_139 : decode cX12_game 139 = .ok (.iload 9, 2) := by decide +kernel
theorem dX12_game_141 : decode cX12_game 141 = .ok (.iload_n 3, 1) := by decide +kernel
theorem dX12_game_142 : decode cX12_game 142 = .ok (.iload 4, 2) := by decide +kernel
theorem dX12_game_144 : decode cX12_game 144 = .ok (.invokevirtual 511, 3) := by decide +kernel
theorem dX12_game_147 : decode cX12_game 147 = .ok (.aload_n 0, 1) := by decide +kernel
theorem dX12_game_148 : decode cX12_game 148 = .ok (.iload_n 2, 1) := by decide +kernel
theorem dX12_game_149 : decode cX12_game 149 = .ok (.iload 10, 2) := by decide +kernel
theorem dX12_game_151 : decode cX12_game 151 = .ok (.iload_n 1, 1) := by decide +kernel
theorem dX12_game_152 : decode cX12_game 152 = .ok (.iload 9, 2) := by decide +kernel
theorem dX12_game_154 : decode cX12_game 154 = .ok (.iload_n 3, 1) := by decide +kernel
theorem dX12_game_155 : decode cX12_game 155 = .ok (.iload 4, 2) := by decide +kernel
theorem dX12_game_157 : decode cX12_game 157 = .ok (.invokevirtual 511, 3) := by decide +kernel
theorem dX12_game_160 : decode cX12_game 160 = .ok (.if_icmp .le 6, 3) := by decide +kernel
theorem dX12_game_163 : decode cX12_game 163 = .ok (.goto 22, 3) := by decide +kernel
theorem dX12_game_166 : decode cX12_game 166 = .ok (.iinc 6 1, 3) := by decide +kernel
theorem dX12_game_169 : decode cX12_game 169 = .ok (.iload 7, 2) := by decide +kernel
theorem dX12_game_171 : decode cX12_game 171 = .ok (.iconst (-1), 1) := by decide +kernel
theorem dX12_game_172 : decode cX12_game 172 = .ok (.if_icmp .ne 13, 3) := by decide +kernel
theorem dX12_game_175 : decode cX12_game 175 = .ok (.bipush 10, 2) := by decide +kernel
theorem dX12_game_177 : decode cX12_game 177 = .ok (.iload 9, 2) := by decide +kernel
theorem dX12_game_179 : decode cX12_game 179 = .ok (.imul, 1) := by decide +kernel
theorem dX12_game_180 : decode cX12_game 180 = .ok (.iload 10, 2) := by decide +kernel
theorem dX12_game_182 : decode cX12_game 182 = .ok (.iadd, 1) := by decide +kernel
theorem dX12_game_183 : decode cX12_game 183 = .ok (.istore 7, 2) := by decide +kernel
theorem dX12_game_185 : decode cX12_game 185 = .ok (.iinc 8 1, 3) := by decide +kernel
theorem dX12_game_188 : decode cX12_game 188 = .ok (.goto (-105), 3) := by decide +kernel
theorem dX12_game_191 : decode cX12_game 191 = .ok (.iload 5, 2) := by decide +kernel
theorem dX12_game_193 : decode cX12_game 193 = .ok (.ifCond .ne 8, 3) := by decide +kernel
theorem dX12_game_196 : decode cX12_game 196 = .ok (.iload 6, 2) := by decide +kernel
theorem dX12_game_198 : decode cX12_game 198 = .ok (.goto 5, 3) := by decide +kernel
theorem dX12_game_201 : decode cX12_game 201 = .ok (.iload 7, 2) := by decide +kernel
theorem dX12_game_203 : decode cX12_game 203 = .ok (.ireturn, 1) := by decide +kernel
theorem dX12_draw_0 : decode cX12_draw 0 = .ok (.aload_n 0, 1) := by decide +kernel
theorem dX12_draw_1 : decode cX12_draw 1 = .ok (.aload_n 0, 1) := by decide +kernel
theorem dX12_draw_2 : decode cX12_draw 2 = .ok (.getfield 515, 3) := by decide +kernel
theorem dX12_draw_5 : decode cX12_draw 5 = .ok (.ldc_w 518, 3) := by decide +kernel
theorem dX12_draw_8 : decode cX12_draw 8 = .ok (.imul, 1) := by decide +kernel
theorem dX12_draw_9 : decode cX12_draw 9 = .ok (.sipush 12345, 3) := by decide +kernel
theorem dX12_draw_12 : decode cX12_draw 12 = .ok (.iadd, 1) := by decide +kernel
theorem dX12_draw_13 : decode cX12_draw 13 = .ok (.putfield 515, 3) := by decide +kernel
theorem dX12_draw_16 : decode cX12_draw 16 = .ok (.aload_n 0, 1) := by decide +kernel
theorem dX12_draw_17 : decode cX12_draw 17 = .ok (.getfield 515, 3) := by decide +kernel
theorem dX12_draw_20 : decode cX12_draw 20 = .ok (.bipush 16, 2) := by decide +kernel
theorem dX12_draw_22 : decode cX12_draw 22 = .ok (.ishr, 1) := by decide +kernel
theorem dX12_draw_23 : decode cX12_draw 23 = .ok (.sipush 32767, 3) := by decide +kernel
theorem dX12_draw_26 : decode cX12_draw 26 = .ok (.iand, 1) := by decide +kernel
theorem dX12_draw_27 : decode cX12_draw 27 = .ok (.iload_n 1, 1) := by decide +kernel
theorem dX12_draw_28 : decode cX12_draw 28 = .ok (.irem, 1) := by decide +kernel
theorem dX12_draw_29 : decode cX12_draw 29 = .ok (.ireturn, 1) := by decide +kernel
theorem dX12_years_0 : decode cX12_years 0 = .ok (.aload_n 0, 1) := by decide +kernel
theorem dX12_years_1 : decode cX12_years 1 = .ok (.iconst 0, 1) := by decide +kernel
theorem dX12_years_2 : decode cX12_years 2 = .ok (.putfield 159, 3) := by decide +kernel
theorem dX12_years_5 : decode cX12_years 5 = .ok (.aload_n 0, 1) := by decide +kernel
theorem dX12_years_6 : decode cX12_years 6 = .ok (.iload_n 3, 1) := by decide +kernel
theorem dX12_years_7 : decode cX12_years 7 = .ok (.iconst 2, 1) := by decide +kernel
theorem dX12_years_8 : decode cX12_years 8 = .ok (.invokevirtual 427, 3) := by decide +kernel
theorem dX12_years_11 : decode cX12_years 11 = .ok (.ifCond .eq 18, 3) := by decide +kernel
theorem dX12_years_14 : decode cX12_years 14 = .ok (.aload_n 0, 1) := by decide +kernel
theorem dX12_years_15 : decode cX12_years 15 = .ok (.iload_n 2, 1) := by decide +kernel
theorem dX12_years_16 : decode cX12_years 16 = .ok (.iconst 0, 1) := by decide +kernel
theorem dX12_years_17 : decode cX12_years 17 = .ok (.bipush 40, 2) := by decide +kernel
theorem dX12_years_19 : decode cX12_years 19 = .ok (.invokestatic 420, 3) := by decide +kernel
theorem dX12_years_22 : decode cX12_years 22 = .ok (.iconst 2, 1) := by decide +kernel
theorem dX12_years_23 : decode cX12_years 23 = .ok (.invokevirtual 329, 3) := by decide +kernel
theorem dX12_years_26 : decode cX12_years 26 = .ok (.ifCond .ne 5, 3) := by decide +kernel
theorem dX12_years_29 : decode cX12_years 29 = .ok (.iconst 0, 1) := by decide +kernel
theorem dX12_years_30 : decode cX12_years 30 = .ok (.ireturn, 1) := by decide +kernel
theorem dX12_years_31 : decode cX12_years 31 = .ok (.iconst 0, 1) := by decide +kernel
theorem dX12_years_32 : decode cX12_years 32 = .ok (.istore 4, 2) := by decide +kernel
theorem dX12_years_34 : decode cX12_years 34 = .ok (.iload 4, 2) := by decide +kernel
theorem dX12_years_36 : decode cX12_years 36 = .ok (.aload_n 0, 1) := by decide +kernel
theorem dX12_years_37 : decode cX12_years 37 = .ok (.getfield 339, 3) := by decide +kernel
theorem dX12_years_40 : decode cX12_years 40 = .ok (.if_icmp .ge 26, 3) := by decide +kernel
theorem dX12_years_43 : decode cX12_years 43 = .ok (.aload_n 0, 1) := by decide +kernel
theorem dX12_years_44 : decode cX12_years 44 = .ok (.getfield 147, 3) := by decide +kernel
theorem dX12_years_47 : decode cX12_years 47 = .ok (.iload 4, 2) := by decide +kernel
theorem dX12_years_49 : decode cX12_years 49 = .ok (.aload_n 0, 1) := by decide +kernel
theorem dX12_years_50 : decode cX12_years 50 = .ok (.getfield 102, 3) := by decide +kernel
theorem dX12_years_53 : decode cX12_years 53 = .ok (.bipush 13, 2) := by decide +kernel
theorem dX12_years_55 : decode cX12_years 55 = .ok (.iload 4, 2) := by decide +kernel
theorem dX12_years_57 : decode cX12_years 57 = .ok (.iadd, 1) := by decide +kernel
theorem dX12_years_58 : decode cX12_years 58 = .ok (.iaload, 1) := by decide +kernel
theorem dX12_years_59 : decode cX12_years 59 = .ok (.iastore, 1) := by decide +kernel
theorem dX12_years_60 : decode cX12_years 60 = .ok (.iinc 4 1, 3) := by decide +kernel
theorem dX12_years_63 : decode cX12_years 63 = .ok (.goto (-29), 3) := by decide +kernel
theorem dX12_years_66 : decode cX12_years 66 = .ok (.aload_n 0, 1) := by decide +kernel
theorem dX12_years_67 : decode cX12_years 67 = .ok (.iload_n 1, 1) := by decide +kernel
theorem dX12_years_68 : decode cX12_years 68 = .ok (.putfield 515, 3) := by decide +kernel
theorem dX12_years_71 : decode cX12_years 71 = .ok (.iconst 0, 1) := by decide +kernel
theorem dX12_years_72 : decode cX12_years 72 = .ok (.istore 4, 2) := by decide +kernel
theorem dX12_years_74 : decode cX12_years 74 = .ok (.iconst 0, 1) := by decide +kernel
theorem dX12_years_75 : decode cX12_years 75 = .ok (.istore 5, 2) := by decide +kernel
theorem dX12_years_77 : decode cX12_years 77 = .ok (.iconst 0, 1) := by decide +kernel
theorem dX12_years_78 : decode cX12_years 78 = .ok (.istore 6, 2) := by decide +kernel
theorem dX12_years_80 : decode cX12_years 80 = .ok (.iconst 0, 1) := by decide +kernel
theorem dX12_years_81 : decode cX12_years 81 = .ok (.istore 7, 2) := by decide +kernel
theorem dX12_years_83 : decode cX12_years 83 = .ok (.iload 7, 2) := by decide +kernel
theorem dX12_years_85 : decode cX12_years 85 = .ok (.iload_n 2, 1) := by decide +kernel
theorem dX12_years_86 : decode cX12_years 86 = .ok (.if_icmp .ge 154, 3) := by decide +kernel
theorem dX12_years_89 : decode cX12_years 89 = .ok (.aload_n 0, 1) := by decide +kernel
theorem dX12_years_90 : decode cX12_years 90 = .ok (.getfield 339, 3) := by decide +kernel
theorem dX12_years_93 : decode cX12_years 93 = .ok (.ifCond .le 63, 3) := by decide +kernel
theorem dX12_years_96 : decode cX12_years 96 = .ok (.aload_n 0, 1) := by decide +kernel
theorem dX12_years_97 : decode cX12_years 97 = .ok (.aload_n 0, 1) := by decide +kernel
theorem dX12_years_98 : decode cX12_years 98 = .ok (.getfield 339, 3) := by decide +kernel
theorem dX12_years_101 : decode cX12_years 101 = .ok (.invokevirtual 519, 3) := by decide +kernel
theorem dX12_years_104 : decode cX12_years 104 = .ok (.istore 8, 2) := by decide +kernel
theorem dX12_years_106 : decode cX12_years 106 = .ok (.aload_n 0, 1) := by decide +kernel
theorem dX12_years_107 : decode cX12_years 107 = .ok (.aload_n 0, 1) := by decide +kernel
theorem dX12_years_108 : decode cX12_years 108 = .ok (.getfield 102, 3) := by decide +kernel
theorem dX12_years_111 : decode cX12_years 111 = .ok (.bipush 13, 2) := by decide +kernel
theorem dX12_years_113 : decode cX12_years 113 = .ok (.iload 8, 2) := by decide +kernel
theorem dX12_years_115 : decode cX12_years 115 = .ok (.iadd, 1) := by decide +kernel
theorem dX12_years_116 : decode cX12_years 116 = .ok (.iaload, 1) := by decide +kernel
theorem dX12_years_117 : decode cX12_years 117 = .ok (.aload_n 0, 1) := by decide +kernel
theorem dX12_years_118 : decode cX12_years 118 = .ok (.iconst 4, 1) := by decide +kernel
theorem dX12_years_119 : decode cX12_years 119 = .ok (.invokevirtual 519, 3) := by decide +kernel
theorem dX12_years_122 : decode cX12_years 122 = .ok (.invokevirtual 375, 3) := by decide +kernel
theorem dX12_years_125 : decode cX12_years 125 = .ok (.istore 9, 2) := by decide +kernel
theorem dX12_years_127 : decode cX12_years 127 = .ok (.aload_n 0, 1) := by decide +kernel
theorem dX12_years_128 : decode cX12_years 128 = .ok (.iload 9, 2) := by decide +kernel
theorem dX12_years_130 : decode cX12_years 130 = .ok (.bipush 13, 2) := by decide +kernel
theorem dX12_years_132 : decode cX12_years 132 = .ok (.aload_n 0, 1) := by decide +kernel
theorem dX12_years_133 : decode cX12_years 133 = .ok (.getfield 339, 3) := by decide +kernel
theorem dX12_years_136 : decode cX12_years 136 = .ok (.iload 8, 2) := by decide +kernel
theorem dX12_years_138 : decode cX12_years 138 = .ok (.invokevirtual 463, 3) := by decide +kernel
theorem dX12_years_141 : decode cX12_years 141 = .ok (.ifCond .eq 15, 3) := by decide +kernel
theorem dX12_years_144 : decode cX12_years 144 = .ok (.aload_n 0, 1) := by decide +kernel
theorem dX12_years_145 : decode cX12_years 145 = .ok (.getfield 102, 3) := by decide +kernel
theorem dX12_years_148 : decode cX12_years 148 = .ok (.bipush 13, 2) := by decide +kernel
theorem dX12_years_150 : decode cX12_years 150 = .ok (.iload 8, 2) := by decide +kernel
theorem dX12_years_152 : decode cX12_years 152 = .ok (.iadd, 1) := by decide +kernel
theorem dX12_years_153 : decode cX12_years 153 = .ok (.iload 9, 2) := by decide +kernel
theorem dX12_years_155 : decode cX12_years 155 = .ok (.iastore, 1) := by decide +kernel
theorem dX12_years_156 : decode cX12_years 156 = .ok (.aload_n 0, 1) := by decide +kernel
theorem dX12_years_157 : decode cX12_years 157 = .ok (.bipush 24, 2) := by decide +kernel
theorem dX12_years_159 : decode cX12_years 159 = .ok (.aload_n 0, 1) := by decide +kernel
theorem dX12_years_160 : decode cX12_years 160 = .ok (.getfield 102, 3) := by decide +kernel
theorem dX12_years_163 : decode cX12_years 163 = .ok (.bipush 18, 2) := by decide +kernel
theorem dX12_years_165 : decode cX12_years 165 = .ok (.iaload, 1) := by decide +kernel
theorem dX12_years_166 : decode cX12_years 166 = .ok (.invokevirtual 391, 3) := by decide +kernel
theorem dX12_years_169 : decode cX12_years 169 = .ok (.aload_n 0, 1) := by decide +kernel
theorem dX12_years_170 : decode cX12_years 170 = .ok (.iconst 0, 1) := by decide +kernel
theorem dX12_years_171 : decode cX12_years 171 = .ok (.aload_n 0, 1) := by decide +kernel
theorem dX12_years_172 : decode cX12_years 172 = .ok (.bipush 10, 2) := by decide +kernel
theorem dX12_years_174 : decode cX12_years 174 = .ok (.invokevirtual 519, 3) := by decide +kernel
theorem dX12_years_177 : decode cX12_years 177 = .ok (.bipush 31, 2) := by decide +kernel
theorem dX12_years_179 : decode cX12_years 179 = .ok (.invokevirtual 451, 3) := by decide +kernel
theorem dX12_years_182 : decode cX12_years 182 = .ok (.invokestatic 466, 3) := by decide +kernel
theorem dX12_years_185 : decode cX12_years 185 = .ok (.istore 8, 2) := by decide +kernel
theorem dX12_years_187 : decode cX12_years 187 = .ok (.iload 4, 2) := by decide +kernel
theorem dX12_years_189 : decode cX12_years 189 = .ok (.iload 8, 2) := by decide +kernel
theorem dX12_years_191 : decode cX12_years 191 = .ok (.iadd, 1) := by decide +kernel
theorem dX12_years_192 : decode cX12_years 192 = .ok (.istore 4, 2) := by decide +kernel
theorem dX12_years_194 : decode cX12_years 194 = .ok (.iload 7, 2) := by decide +kernel
theorem dX12_years_196 : decode cX12_years 196 = .ok (.ifCond .eq 10, 3) := by decide +kernel
theorem dX12_years_199 : decode cX12_years 199 = .ok (.iload 8, 2) := by decide +kernel
theorem dX12_years_201 : decode cX12_years 201 = .ok (.iload 5, 2) := by decide +kernel
theorem dX12_years_203 : decode cX12_years 203 = .ok (.if_icmp .ge 8, 3) := by decide +kernel
theorem dX12_years_206 : decode cX12_years 206 = .ok (.iload 8, 2) := by decide +kernel
theorem dX12_years_208 : decode cX12_years 208 = .ok (.goto 5, 3) := by decide +kernel
theorem dX12_years_211 : decode cX12_years 211 = .ok (.iload 5, 2) := by decide +kernel
theorem dX12_years_213 : decode cX12_years 213 = .ok (.istore 5, 2) := by decide +kernel
theorem dX12_years_215 : decode cX12_years 215 = .ok (.iload 6, 2) := by decide +kernel
theorem dX12_years_217 : decode cX12_years 217 = .ok (.iload 8, 2) := by decide +kernel
theorem dX12_years_219 : decode cX12_years 219 = .ok (.aload_n 0, 1) := by decide +kernel
theorem dX12_years_220 : decode cX12_years 220 = .ok (.getfield 342, 3) := by decide +kernel
theorem dX12_years_223 : decode cX12_years 223 = .ok (.if_icmp .ne 7, 3) := by decide +kernel
theorem dX12_years_226 : decode cX12_years 226 = .ok (.iconst 1, 1) := by decide +kernel
theorem dX12_years_227 : decode cX12_years 227 = .ok (.goto 4, 3) := by decide +kernel
theorem dX12_years_230 : decode cX12_years 230 = .ok (.iconst 0, 1) := by decide +kernel
theorem dX12_years_231 : decode cX12_years 231 = .ok (.iadd, 1) := by decide +kernel
theorem dX12_years_232 : decode cX12_years 232 = .ok (.istore 6, 2) := by decide +kernel
theorem dX12_years_234 : decode cX12_years 234 = .ok (.iinc 7 1, 3) := by decide +kernel
theorem dX12_years_237 : decode cX12_years 237 = .ok (.goto (-154), 3) := by decide +kernel
theorem dX12_years_240 : decode cX12_years 240 = .ok (.iconst 0, 1) := by decide +kernel
theorem dX12_years_241 : decode cX12_years 241 = .ok (.istore 7, 2) := by decide +kernel
theorem dX12_years_243 : decode cX12_years 243 = .ok (.iload 7, 2) := by decide +kernel
theorem dX12_years_245 : decode cX12_years 245 = .ok (.aload_n 0, 1) := by decide +kernel
theorem dX12_years_246 : decode cX12_years 246 = .ok (.getfield 339, 3) := by decide +kernel
theorem dX12_years_249 : decode cX12_years 249 = .ok (.if_icmp .ge 26, 3) := by decide +kernel
theorem dX12_years_252 : decode cX12_years 252 = .ok (.aload_n 0, 1) := by decide +kernel
theorem dX12_years_253 : decode cX12_years 253 = .ok (.getfield 102, 3) := by decide +kernel
theorem dX12_years_256 : decode cX12_years 256 = .ok (.bipush 13, 2) := by decide +kernel
theorem dX12_years_258 : decode cX12_years 258 = .ok (.iload 7, 2) := by decide +kernel
theorem dX12_years_260 : decode cX12_years 260 = .ok (.iadd, 1) := by decide +kernel
theorem dX12_years_261 : decode cX12_years 261 = .ok (.aload_n 0, 1) := by decide +kernel
theorem dX12_years_262 : decode cX12_years 262 = .ok (.getfield 147, 3) := by decide +kernel
theorem dX12_years_265 : decode cX12_years 265 = .ok (.iload 7, 2) := by decide +kernel
theorem dX12_years_267 : decode cX12_years 267 = .ok (.iaload, 1) := by decide +kernel
theorem dX12_years_268 : decode cX12_years 268 = .ok (.iastore, 1) := by decide +kernel
theorem dX12_years_269 : decode cX12_years 269 = .ok (.iinc 7 1, 3) := by decide +kernel
theorem dX12_years_272 : decode cX12_years 272 = .ok (.goto (-29), 3) := by decide +kernel
theorem dX12_years_275 : decode cX12_years 275 = .ok (.iload_n 3, 1) := by decide +kernel
theorem dX12_years_276 : decode cX12_years 276 = .ok (.ifCond .ne 8, 3) := by decide +kernel
theorem dX12_years_279 : decode cX12_years 279 = .ok (.iload 4, 2) := by decide +kernel
theorem dX12_years_281 : decode cX12_years 281 = .ok (.goto 15, 3) := by decide +kernel
theorem dX12_years_284 : decode cX12_years 284 = .ok (.iload_n 3, 1) := by decide +kernel
theorem dX12_years_285 : decode cX12_years 285 = .ok (.iconst 1, 1) := by decide +kernel
theorem dX12_years_286 : decode cX12_years 286 = .ok (.if_icmp .ne 8, 3) := by decide +kernel
theorem dX12_years_289 : decode cX12_years 289 = .ok (.iload 5, 2) := by decide +kernel
theorem dX12_years_291 : decode cX12_years 291 = .ok (.goto 5, 3) := by decide +kernel
theorem dX12_years_294 : decode cX12_years 294 = .ok (.iload 6, 2) := by decide +kernel
theorem dX12_years_296 : decode cX12_years 296 = .ok (.ireturn, 1) := by decide +kernel
theorem dX12_father_0 : decode cX12_father 0 = .ok (.aload_n 0, 1) := by decide +kernel
theorem dX12_father_1 : decode cX12_father 1 = .ok (.iconst 0, 1) := by decide +kernel
theorem dX12_father_2 : decode cX12_father 2 = .ok (.putfield 159, 3) := by decide +kernel
theorem dX12_father_5 : decode cX12_father 5 = .ok (.aload_n 0, 1) := by decide +kernel
theorem dX12_father_6 : decode cX12_father 6 = .ok (.iload_n 1, 1) := by decide +kernel
theorem dX12_father_7 : decode cX12_father 7 = .ok (.invokevirtual 433, 3) := by decide +kernel
theorem dX12_father_10 : decode cX12_father 10 = .ok (.ifCond .eq 11, 3) := by decide +kernel
theorem dX12_father_13 : decode cX12_father 13 = .ok (.aload_n 0, 1) := by decide +kernel
theorem dX12_father_14 : decode cX12_father 14 = .ok (.iload_n 2, 1) := by decide +kernel
theorem dX12_father_15 : decode cX12_father 15 = .ok (.invokevirtual 445, 3) := by decide +kernel
theorem dX12_father_18 : decode cX12_father 18 = .ok (.ifCond .ne 5, 3) := by decide +kernel
theorem dX12_father_21 : decode cX12_father 21 = .ok (.iconst 0, 1) := by decide +kernel
theorem dX12_father_22 : decode cX12_father 22 = .ok (.ireturn, 1) := by decide +kernel
theorem dX12_father_23 : decode cX12_father 23 = .ok (.aload_n 0, 1) := by decide +kernel
theorem dX12_father_24 : decode cX12_father 24 = .ok (.invokevirtual 436, 3) := by decide +kernel
theorem dX12_father_27 : decode cX12_father 27 = .ok (.aload_n 0, 1) := by decide +kernel
theorem dX12_father_28 : decode cX12_father 28 = .ok (.iload_n 1, 1) := by decide +kernel
theorem dX12_father_29 : decode cX12_father 29 = .ok (.iload_n 2, 1) := by decide +kernel
theorem dX12_father_30 : decode cX12_father 30 = .ok (.invokevirtual 430, 3) := by decide +kernel
theorem dX12_father_33 : decode cX12_father 33 = .ok (.istore_n 3, 1) := by decide +kernel
theorem dX12_father_34 : decode cX12_father 34 = .ok (.iconst (-1), 1) := by decide +kernel
theorem dX12_father_35 : decode cX12_father 35 = .ok (.istore 4, 2) := by decide +kernel
theorem dX12_father_37 : decode cX12_father 37 = .ok (.iconst 0, 1) := by decide +kernel
theorem dX12_father_38 : decode cX12_father 38 = .ok (.istore 5, 2) := by decide +kernel
theorem dX12_father_40 : decode cX12_father 40 = .ok (.iconst 0, 1) := by decide +kernel
theorem dX12_father_41 : decode cX12_father 41 = .ok (.istore 6, 2) := by decide +kernel
theorem dX12_father_43 : decode cX12_father 43 = .ok (.iload 6, 2) := by decide +kernel
theorem dX12_father_45 : decode cX12_father 45 = .ok (.aload_n 0, 1) := by decide +kernel
theorem dX12_father_46 : decode cX12_father 46 = .ok (.getfield 339, 3) := by decide +kernel
theorem dX12_father_49 : decode cX12_father 49 = .ok (.if_icmp .ge 69, 3) := by decide +kernel
theorem dX12_father_52 : decode cX12_father 52 = .ok (.aload_n 0, 1) := by decide +kernel
theorem dX12_father_53 : decode cX12_father 53 = .ok (.aload_n 0, 1) := by decide +kernel
theorem dX12_father_54 : decode cX12_father 54 = .ok (.getfield 114, 3) := by decide +kernel
theorem dX12_father_57 : decode cX12_father 57 = .ok (.sipush 240, 3) := by decide +kernel
theorem dX12_father_60 : decode cX12_father 60 = .ok (.iload 6, 2) := by decide +kernel
theorem dX12_father_62 : decode cX12_father 62 = .ok (.imul, 1) := by decide +kernel
theorem dX12_father_63 : decode cX12_father 63 = .ok (.iload_n 2, 1) := by decide +kernel
theorem dX12_father_64 : decode cX12_father 64 = .ok (.iadd, 1) := by decide +kernel
theorem dX12_father_65 : decode cX12_father 65 = .ok (.iaload, 1) := by decide +kernel
theorem dX12_father_66 : decode cX12_father 66 = .ok (.aload_n 0, 1) := by decide +kernel
theorem dX12_father_67 : decode cX12_father 67 = .ok (.getfield 102, 3) := by decide +kernel
theorem dX12_father_70 : decode cX12_father 70 = .ok (.iconst 5, 1) := by decide +kernel
theorem dX12_father_71 : decode cX12_father 71 = .ok (.iload_n 1, 1) := by decide +kernel
theorem dX12_father_72 : decode cX12_father 72 = .ok (.iadd, 1) := by decide +kernel
theorem dX12_father_73 : decode cX12_father 73 = .ok (.iaload, 1) := by decide +kernel
theorem dX12_father_74 : decode cX12_father 74 = .ok (.invokevirtual 397, 3) := by decide +kernel
theorem dX12_father_77 : decode cX12_father 77 = .ok (.istore 7, 2) := by decide +kernel
theorem dX12_father_79 : decode cX12_father 79 = .ok (.iload_n 3, 1) := by decide +kernel
theorem dX12_father_80 : decode cX12_father 80 = .ok (.iload 6, 2) := by decide +kernel
theorem dX12_father_82 : decode cX12_father 82 = .ok (.ishr, 1) := by decide +kernel
theorem dX12_father_83 : decode cX12_father 83 = .ok (.iconst 1, 1) := by decide +kernel
theorem dX12_father_84 : decode cX12_father 84 = .ok (.iand, 1) := by decide +kernel
theorem dX12_father_85 : decode cX12_father 85 = .ok (.ifCond .eq 27, 3) := by decide +kernel
theorem dX12_father_88 : decode cX12_father 88 = .ok (.iload 4, 2) := by decide +kernel
theorem dX12_father_90 : decode cX12_father 90 = .ok (.iconst (-1), 1) := by decide +kernel
theorem dX12_father_91 : decode cX12_father 91 = .ok (.if_icmp .eq 13, 3) := by decide +kernel
theorem dX12_father_94 : decode cX12_father 94 = .ok (.iload 7, 2) := by decide +kernel
theorem dX12_father_96 : decode cX12_father 96 = .ok (.iload 5, 2) := by decide +kernel
theorem dX12_father_98 : decode cX12_father 98 = .ok (.if_icmp .lt 6, 3) := by decide +kernel
theorem dX12_father_101 : decode cX12_father 101 = .ok (.goto 11, 3) := by decide +kernel
theorem dX12_father_104 : decode cX12_father 104 = .ok (.iload 6, 2) := by decide +kernel
theorem dX12_father_106 : decode cX12_father 106 = .ok (.istore 4, 2) := by decide +kernel
theorem dX12_father_108 : decode cX12_father 108 = .ok (.iload 7, 2) := by decide +kernel
theorem dX12_father_110 : decode cX12_father 110 = .ok (.istore 5, 2) := by decide +kernel
theorem dX12_father_112 : decode cX12_father 112 = .ok (.iinc 6 1, 3) := by decide +kernel
theorem dX12_father_115 : decode cX12_father 115 = .ok (.goto (-72), 3) := by decide +kernel
theorem dX12_father_118 : decode cX12_father 118 = .ok (.iload 4, 2) := by decide +kernel
theorem dX12_father_120 : decode cX12_father 120 = .ok (.ireturn, 1) := by decide +kernel
theorem dX12_shows_0 : decode cX12_shows 0 = .ok (.iconst 0, 1) := by decide +kernel
theorem dX12_shows_1 : decode cX12_shows 1 = .ok (.istore_n 2, 1) := by decide +kernel
theorem dX12_shows_2 : decode cX12_shows 2 = .ok (.iconst 0, 1) := by decide +kernel
theorem dX12_shows_3 : decode cX12_shows 3 = .ok (.istore_n 3, 1) := by decide +kernel
theorem dX12_shows_4 : decode cX12_shows 4 = .ok (.iload_n 3, 1) := by decide +kernel
theorem dX12_shows_5 : decode cX12_shows 5 = .ok (.aload_n 0, 1) := by decide +kernel
theorem dX12_shows_6 : decode cX12_shows 6 = .ok (.getfield 342, 3) := by decide +kernel
theorem dX12_shows_9 : decode cX12_shows 9 = .ok (.if_icmp .ge 71, 3) := by decide +kernel
theorem dX12_shows_12 : decode cX12_shows 12 = .ok (.iconst 0, 1) := by decide +kernel
theorem dX12_shows_13 : decode cX12_shows 13 = .ok (.istore 4, 2) := by decide +kernel
theorem dX12_shows_15 : decode cX12_shows 15 = .ok (.iload 4, 2) := by decide +kernel
theorem dX12_shows_17 : decode cX12_shows 17 = .ok (.sipush 240, 3) := by decide +kernel
theorem dX12_shows_20 : decode cX12_shows 20 = .ok (.if_icmp .ge 54, 3) := by decide +kernel
theorem dX12_shows_23 : decode cX12_shows 23 = .ok (.iload_n 2, 1) := by decide +kernel
theorem dX12_shows_24 : decode cX12_shows 24 = .ok (.aload_n 0, 1) := by decide +kernel
theorem dX12_shows_25 : decode cX12_shows 25 = .ok (.iload_n 1, 1) := by decide +kernel
theorem dX12_shows_26 : decode cX12_shows 26 = .ok (.iload 4, 2) := by decide +kernel
theorem dX12_shows_28 : decode cX12_shows 28 = .ok (.invokevirtual 369, 3) := by decide +kernel
theorem dX12_shows_31 : decode cX12_shows 31 = .ok (.ifCond .eq 34, 3) := by decide +kernel
theorem dX12_shows_34 : decode cX12_shows 34 = .ok (.aload_n 0, 1) := by decide +kernel
theorem dX12_shows_35 : decode cX12_shows 35 = .ok (.iload_n 1, 1) := by decide +kernel
theorem dX12_shows_36 : decode cX12_shows 36 = .ok (.iload 4, 2) := by decide +kernel
theorem dX12_shows_38 : decode cX12_shows 38 = .ok (.aload_n 0, 1) := by decide +kernel
theorem dX12_shows_39 : decode cX12_shows 39 = .ok (.getfield 102, 3) := by decide +kernel
theorem dX12_shows_42 : decode cX12_shows 42 = .ok (.iconst 5, 1) := by decide +kernel
theorem dX12_shows_43 : decode cX12_shows 43 = .ok (.iload_n 3, 1) := by decide +kernel
theorem dX12_shows_44 : decode cX12_shows 44 = .ok (.iadd, 1) := by decide +kernel
theorem dX12_shows_45 : decode cX12_shows 45 = .ok (.iaload, 1) := by decide +kernel
theorem dX12_shows_46 : decode cX12_shows 46 = .ok (.aload_n 0, 1) := by decide +kernel
theorem dX12_shows_47 : decode cX12_shows 47 = .ok (.iload 4, 2) := by decide +kernel
theorem dX12_shows_49 : decode cX12_shows 49 = .ok (.bipush 24, 2) := by decide +kernel
theorem dX12_shows_51 : decode cX12_shows 51 = .ok (.idiv, 1) := by decide +kernel
theorem dX12_shows_52 : decode cX12_shows 52 = .ok (.invokevirtual 407, 3) := by decide +kernel
theorem dX12_shows_55 : decode cX12_shows 55 = .ok (.invokevirtual 403, 3) := by decide +kernel
theorem dX12_shows_58 : decode cX12_shows 58 = .ok (.ifCond .eq 7, 3) := by decide +kernel
theorem dX12_shows_61 : decode cX12_shows 61 = .ok (.iconst 1, 1) := by decide +kernel
theorem dX12_shows_62 : decode cX12_shows 62 = .ok (.goto 4, 3) := by decide +kernel
theorem dX12_shows_65 : decode cX12_shows 65 = .ok (.iconst 0, 1) := by decide +kernel
theorem dX12_shows_66 : decode cX12_shows 66 = .ok (.iadd, 1) := by decide +kernel
theorem dX12_shows_67 : decode cX12_shows 67 = .ok (.istore_n 2, 1) := by decide +kernel
theorem dX12_shows_68 : decode cX12_shows 68 = .ok (.iinc 4 1, 3) := by decide +kernel
theorem dX12_shows_71 : decode cX12_shows 71 = .ok (.goto (-56), 3) := by decide +kernel
theorem dX12_shows_74 : decode cX12_shows 74 = .ok (.iinc 3 1, 3) := by decide +kernel
theorem dX12_shows_77 : decode cX12_shows 77 = .ok (.goto (-73), 3) := by decide +kernel
theorem dX12_shows_80 : decode cX12_shows 80 = .ok (.iload_n 2, 1) := by decide +kernel
theorem dX12_shows_81 : decode cX12_shows 81 = .ok (.ireturn, 1) := by decide +kernel
theorem dX12_journey_0 : decode cX12_journey 0 = .ok (.aload_n 0, 1) := by decide +kernel
theorem dX12_journey_1 : decode cX12_journey 1 = .ok (.iconst 0, 1) := by decide +kernel
theorem dX12_journey_2 : decode cX12_journey 2 = .ok (.putfield 159, 3) := by decide +kernel
theorem dX12_journey_5 : decode cX12_journey 5 = .ok (.aload_n 0, 1) := by decide +kernel
theorem dX12_journey_6 : decode cX12_journey 6 = .ok (.iload_n 1, 1) := by decide +kernel
theorem dX12_journey_7 : decode cX12_journey 7 = .ok (.invokevirtual 424, 3) := by decide +kernel
theorem dX12_journey_10 : decode cX12_journey 10 = .ok (.ifCond .eq 12, 3) := by decide +kernel
theorem dX12_journey_13 : decode cX12_journey 13 = .ok (.aload_n 0, 1) := by decide +kernel
theorem dX12_journey_14 : decode cX12_journey 14 = .ok (.iload_n 2, 1) := by decide +kernel
theorem dX12_journey_15 : decode cX12_journey 15 = .ok (.iconst 2, 1) := by decide +kernel
theorem dX12_journey_16 : decode cX12_journey 16 = .ok (.invokevirtual 427, 3) := by decide +kernel
theorem dX12_journey_19 : decode cX12_journey 19 = .ok (.ifCond .ne 5, 3) := by decide +kernel
theorem dX12_journey_22 : decode cX12_journey 22 = .ok (.iconst 0, 1) := by decide +kernel
theorem dX12_journey_23 : decode cX12_journey 23 = .ok (.ireturn, 1) := by decide +kernel
theorem dX12_journey_24 : decode cX12_journey 24 = .ok (.aload_n 0, 1) := by decide +kernel
theorem dX12_journey_25 : decode cX12_journey 25 = .ok (.invokevirtual 436, 3) := by decide +kernel
theorem dX12_journey_28 : decode cX12_journey 28 = .ok (.iload_n 2, 1) := by decide +kernel
theorem dX12_journey_29 : decode cX12_journey 29 = .ok (.iconst 2, 1) := by decide +kernel
theorem dX12_journey_30 : decode cX12_journey 30 = .ok (.if_icmp .ne 9, 3) := by decide +kernel
theorem dX12_journey_33 : decode cX12_journey 33 = .ok (.aload_n 0, 1) := by decide +kernel
theorem dX12_journey_34 : decode cX12_journey 34 = .ok (.iload_n 1, 1) := by decide +kernel
theorem dX12_journey_35 : decode cX12_journey 35 = .ok (.invokevirtual 522, 3) := by decide +kernel
theorem dX12_journey_38 : decode cX12_journey 38 = .ok (.ireturn, 1) := by decide +kernel
theorem dX12_journey_39 : decode cX12_journey 39 = .ok (.iconst 0, 1) := by decide +kernel
theorem dX12_journey_40 : decode cX12_journey 40 = .ok (.istore_n 3, 1) := by decide +kernel
theorem dX12_journey_41 : decode cX12_journey 41 = .ok (.iconst 0, 1) := by decide +kernel
theorem dX12_journey_42 : decode cX12_journey 42 = .ok (.istore 4, 2) := by decide +kernel
theorem dX12_journey_44 : decode cX12_journey 44 = .ok (.iload 4, 2) := by decide +kernel
theorem dX12_journey_46 : decode cX12_journey 46 = .ok (.iconst 1, 1) := by decide +kernel
theorem dX12_journey_47 : decode cX12_journey 47 = .ok (.iadd, 1) := by decide +kernel
theorem dX12_journey_48 : decode cX12_journey 48 = .ok (.sipush 240, 3) := by decide +kernel
theorem dX12_journey_51 : decode cX12_journey 51 = .ok (.if_icmp .ge 100, 3) := by decide +kernel
theorem dX12_journey_54 : decode cX12_journey 54 = .ok (.aload_n 0, 1) := by decide +kernel
theorem dX12_journey_55 : decode cX12_journey 55 = .ok (.getfield 114, 3) := by decide +kernel
theorem dX12_journey_58 : decode cX12_journey 58 = .ok (.sipush 240, 3) := by decide +kernel
theorem dX12_journey_61 : decode cX12_journey 61 = .ok (.iload_n 1, 1) := by decide +kernel
theorem dX12_journey_62 : decode cX12_journey 62 = .ok (.imul, 1) := by decide +kernel
theorem dX12_journey_63 : decode cX12_journey 63 = .ok (.iload 4, 2) := by decide +kernel
theorem dX12_journey_65 : decode cX12_journey 65 = .ok (.iadd, 1) := by decide +kernel
theorem dX12_journey_66 : decode cX12_journey 66 = .ok (.iaload, 1) := by decide +kernel
theorem dX12_journey_67 : decode cX12_journey 67 = .ok (.aload_n 0, 1) := by decide +kernel
theorem dX12_journey_68 : decode cX12_journey 68 = .ok (.getfield 114, 3) := by decide +kernel
theorem dX12_journey_71 : decode cX12_journey 71 = .ok (.sipush 240, 3) := by decide +kernel
theorem dX12_journey_74 : decode cX12_journey 74 = .ok (.iload_n 1, 1) := by decide +kernel
theorem dX12_journey_75 : decode cX12_journey 75 = .ok (.imul, 1) := by decide +kernel
theorem dX12_journey_76 : decode cX12_journey 76 = .ok (.iload 4, 2) := by decide +kernel
theorem dX12_journey_78 : decode cX12_journey 78 = .ok (.iadd, 1) := by decide +kernel
theorem dX12_journey_79 : decode cX12_journey 79 = .ok (.iconst 1, 1) := by decide +kernel
theorem dX12_journey_80 : decode cX12_journey 80 = .ok (.iadd, 1) := by decide +kernel
theorem dX12_journey_81 : decode cX12_journey 81 = .ok (.iaload, 1) := by decide +kernel
theorem dX12_journey_82 : decode cX12_journey 82 = .ok (.if_icmp .eq 7, 3) := by decide +kernel
theorem dX12_journey_85 : decode cX12_journey 85 = .ok (.iconst 1, 1) := by decide +kernel
theorem dX12_journey_86 : decode cX12_journey 86 = .ok (.goto 4, 3) := by decide +kernel
theorem dX12_journey_89 : decode cX12_journey 89 = .ok (.iconst 0, 1) := by decide +kernel
theorem dX12_journey_90 : decode cX12_journey 90 = .ok (.istore 5, 2) := by decide +kernel
theorem dX12_journey_92 : decode cX12_journey 92 = .ok (.iload_n 3, 1) := by decide +kernel
theorem dX12_journey_93 : decode cX12_journey 93 = .ok (.iload_n 2, 1) := by decide +kernel
theorem dX12_journey_94 : decode cX12_journey 94 = .ok (.ifCond .ne 16, 3) := by decide +kernel
theorem dX12_journey_97 : decode cX12_journey 97 = .ok (.iload 5, 2) := by decide +kernel
theorem dX12_journey_99 : decode cX12_journey 99 = .ok (.ifCond .eq 7, 3) := by decide +kernel
theorem dX12_journey_102 : decode cX12_journey 102 = .ok (.iconst 1, 1) := by decide +kernel
theorem dX12_journey_103 : decode cX12_journey 103 = .ok (.goto 40, 3) := by decide +kernel
theorem dX12_journey_106 : decode cX12_journey 106 = .ok (.iconst 0, 1) := by decide +kernel
theorem dX12_journey_107 : decode cX12_journey 107 = .ok (.goto 36, 3) := by decide +kernel
theorem dX12_journey_110 : decode cX12_journey 110 = .ok (.iload 5, 2) := by decide +kernel
theorem dX12_journey_112 : decode cX12_journey 112 = .ok (.ifCond .ne 30, 3) := by decide +kernel
theorem dX12_journey_115 : decode cX12_journey 115 = .ok (.aload_n 0, 1) := by decide +kernel
theorem dX12_journey_116 : decode cX12_journey 116 = .ok (.getfield 29, 3) := by decide +kernel
theorem dX12_journey_119 : decode cX12_journey 119 = .ok (.bipush 12, 2) := by decide +kernel
theorem dX12_journey_121 : decode cX12_journey 121 = .ok (.iload_n 1, 1) := by decide +kernel
theorem dX12_journey_122 : decode cX12_journey 122 = .ok (.imul, 1) := by decide +kernel
theorem dX12_journey_123 : decode cX12_journey 123 = .ok (.iload 4, 2) := by decide +kernel
theorem dX12_journey_125 : decode cX12_journey 125 = .ok (.aload_n 0, 1) := by decide +kernel
theorem dX12_journey_126 : decode cX12_journey 126 = .ok (.getfield 26, 3) := by decide +kernel
theorem dX12_journey_129 : decode cX12_journey 129 = .ok (.iload_n 1, 1) := by decide +kernel
theorem dX12_journey_130 : decode cX12_journey 130 = .ok (.iaload, 1) := by decide +kernel
theorem dX12_journey_131 : decode cX12_journey 131 = .ok (.irem, 1) := by decide +kernel
theorem dX12_journey_132 : decode cX12_journey 132 = .ok (.iadd, 1) := by decide +kernel
theorem dX12_journey_133 : decode cX12_journey 133 = .ok (.iaload, 1) := by decide +kernel
theorem dX12_journey_134 : decode cX12_journey 134 = .ok (.iconst 4, 1) := by decide +kernel
theorem dX12_journey_135 : decode cX12_journey 135 = .ok (.if_icmp .eq 7, 3) := by decide +kernel
theorem dX12_journey_138 : decode cX12_journey 138 = .ok (.iconst 1, 1) := by decide +kernel
theorem dX12_journey_139 : decode cX12_journey 139 = .ok (.goto 4, 3) := by decide +kernel
theorem dX12_journey_142 : decode cX12_journey 142 = .ok (.iconst 0, 1) := by decide +kernel
theorem dX12_journey_143 : decode cX12_journey 143 = .ok (.iadd, 1) := by decide +kernel
theorem dX12_journey_144 : decode cX12_journey 144 = .ok (.istore_n 3, 1) := by decide +kernel
theorem dX12_journey_145 : decode cX12_journey 145 = .ok (.iinc 4 1, 3) := by decide +kernel
theorem dX12_journey_148 : decode cX12_journey 148 = .ok (.goto (-104), 3) := by decide +kernel
theorem dX12_journey_151 : decode cX12_journey 151 = .ok (.iload_n 3, 1) := by decide +kernel
theorem dX12_journey_152 : decode cX12_journey 152 = .ok (.ireturn, 1) := by decide +kernel
theorem dX12_brightest_0 : decode cX12_brightest 0 = .ok (.aload_n 0, 1) := by decide +kernel
theorem dX12_brightest_1 : decode cX12_brightest 1 = .ok (.iconst 0, 1) := by decide +kernel
theorem dX12_brightest_2 : decode cX12_brightest 2 = .ok (.putfield 159, 3) := by decide +kernel
theorem dX12_brightest_5 : decode cX12_brightest 5 = .ok (.aload_n 0, 1) := by decide +kernel
theorem dX12_brightest_6 : decode cX12_brightest 6 = .ok (.invokevirtual 436, 3) := by decide +kernel
theorem dX12_brightest_9 : decode cX12_brightest 9 = .ok (.iconst (-1), 1) := by decide +kernel
theorem dX12_brightest_10 : decode cX12_brightest 10 = .ok (.istore_n 1, 1) := by decide +kernel
theorem dX12_brightest_11 : decode cX12_brightest 11 = .ok (.iconst (-1), 1) := by decide +kernel
theorem dX12_brightest_12 : decode cX12_brightest 12 = .ok (.istore_n 2, 1) := by decide +kernel
theorem dX12_brightest_13 : decode cX12_brightest 13 = .ok (.iconst 0, 1) := by decide +kernel
theorem dX12_brightest_14 : decode cX12_brightest 14 = .ok (.istore_n 3, 1) := by decide +kernel
theorem dX12_brightest_15 : decode cX12_brightest 15 = .ok (.iload_n 3, 1) := by decide +kernel
theorem dX12_brightest_16 : decode cX12_brightest 16 = .ok (.aload_n 0, 1) := by decide +kernel
theorem dX12_brightest_17 : decode cX12_brightest 17 = .ok (.getfield 339, 3) := by decide +kernel
theorem dX12_brightest_20 : decode cX12_brightest 20 = .ok (.if_icmp .ge 30, 3) := by decide +kernel
theorem dX12_brightest_23 : decode cX12_brightest 23 = .ok (.aload_n 0, 1) := by decide +kernel
theorem dX12_brightest_24 : decode cX12_brightest 24 = .ok (.iload_n 3, 1) := by decide +kernel
theorem dX12_brightest_25 : decode cX12_brightest 25 = .ok (.invokevirtual 522, 3) := by decide +kernel
theorem dX12_brightest_28 : decode cX12_brightest 28 = .ok (.istore 4, 2) := by decide +kernel
theorem dX12_brightest_30 : decode cX12_brightest 30 = .ok (.iload 4, 2) := by decide +kernel
theorem dX12_brightest_32 : decode cX12_brightest 32 = .ok (.iload_n 2, 1) := by decide +kernel
theorem dX12_brightest_33 : decode cX12_brightest 33 = .ok (.if_icmp .gt 6, 3) := by decide +kernel
theorem dX12_brightest_36 : decode cX12_brightest 36 = .ok (.goto 8, 3) := by decide +kernel
theorem dX12_brightest_39 : decode cX12_brightest 39 = .ok (.iload_n 3, 1) := by decide +kernel
theorem dX12_brightest_40 : decode cX12_brightest 40 = .ok (.istore_n 1, 1) := by decide +kernel
theorem dX12_brightest_41 : decode cX12_brightest 41 = .ok (.iload 4, 2) := by decide +kernel
theorem dX12_brightest_43 : decode cX12_brightest 43 = .ok (.istore_n 2, 1) := by decide +kernel
theorem dX12_brightest_44 : decode cX12_brightest 44 = .ok (.iinc 3 1, 3) := by decide +kernel
theorem dX12_brightest_47 : decode cX12_brightest 47 = .ok (.goto (-32), 3) := by decide +kernel
theorem dX12_brightest_50 : decode cX12_brightest 50 = .ok (.iload_n 1, 1) := by decide +kernel
theorem dX12_brightest_51 : decode cX12_brightest 51 = .ok (.ireturn, 1) := by decide +kernel
theorem dX12_sparing_0 : decode cX12_sparing 0 = .ok (.aload_n 0, 1) := by decide +kernel
theorem dX12_sparing_1 : decode cX12_sparing 1 = .ok (.iconst 0, 1) := by decide +kernel
theorem dX12_sparing_2 : decode cX12_sparing 2 = .ok (.putfield 159, 3) := by decide +kernel
theorem dX12_sparing_5 : decode cX12_sparing 5 = .ok (.aload_n 0, 1) := by decide +kernel
theorem dX12_sparing_6 : decode cX12_sparing 6 = .ok (.iload_n 1, 1) := by decide +kernel
theorem dX12_sparing_7 : decode cX12_sparing 7 = .ok (.invokevirtual 424, 3) := by decide +kernel
theorem dX12_sparing_10 : decode cX12_sparing 10 = .ok (.ifCond .ne 5, 3) := by decide +kernel
theorem dX12_sparing_13 : decode cX12_sparing 13 = .ok (.iconst 0, 1) := by decide +kernel
theorem dX12_sparing_14 : decode cX12_sparing 14 = .ok (.ireturn, 1) := by decide +kernel
theorem dX12_sparing_15 : decode cX12_sparing 15 = .ok (.aload_n 0, 1) := by decide +kernel
theorem dX12_sparing_16 : decode cX12_sparing 16 = .ok (.aload_n 0, 1) := by decide +kernel
theorem dX12_sparing_17 : decode cX12_sparing 17 = .ok (.getfield 102, 3) := by decide +kernel
theorem dX12_sparing_20 : decode cX12_sparing 20 = .ok (.bipush 18, 2) := by decide +kernel
theorem dX12_sparing_22 : decode cX12_sparing 22 = .ok (.iaload, 1) := by decide +kernel
theorem dX12_sparing_23 : decode cX12_sparing 23 = .ok (.invokevirtual 505, 3) := by decide +kernel
theorem dX12_sparing_26 : decode cX12_sparing 26 = .ok (.istore_n 2, 1) := by decide +kernel
theorem dX12_sparing_27 : decode cX12_sparing 27 = .ok (.aload_n 0, 1) := by decide +kernel
theorem dX12_sparing_28 : decode cX12_sparing 28 = .ok (.getfield 102, 3) := by decide +kernel
theorem dX12_sparing_31 : decode cX12_sparing 31 = .ok (.iconst 0, 1) := by decide +kernel
theorem dX12_sparing_32 : decode cX12_sparing 32 = .ok (.iload_n 1, 1) := by decide +kernel
theorem dX12_sparing_33 : decode cX12_sparing 33 = .ok (.iadd, 1) := by decide +kernel
theorem dX12_sparing_34 : decode cX12_sparing 34 = .ok (.iaload, 1) := by decide +kernel
theorem dX12_sparing_35 : decode cX12_sparing 35 = .ok (.istore_n 3, 1) := by decide +kernel
theorem dX12_sparing_36 : decode cX12_sparing 36 = .ok (.iconst (-1), 1) := by decide +kernel
theorem dX12_sparing_37 : decode cX12_sparing 37 = .ok (.istore 4, 2) := by decide +kernel
theorem dX12_sparing_39 : decode cX12_sparing 39 = .ok (.iconst 0, 1) := by decide +kernel
theorem dX12_sparing_40 : decode cX12_sparing 40 = .ok (.istore 5, 2) := by decide +kernel
theorem dX12_sparing_42 : decode cX12_sparing 42 = .ok (.iload 5, 2) := by decide +kernel
theorem dX12_sparing_44 : decode cX12_sparing 44 = .ok (.sipush 200, 3) := by decide +kernel
theorem dX12_sparing_47 : decode cX12_sparing 47 = .ok (.if_icmp .gt 48, 3) := by decide +kernel
theorem dX12_sparing_50 : decode cX12_sparing 50 = .ok (.iload 4, 2) := by decide +kernel
theorem dX12_sparing_52 : decode cX12_sparing 52 = .ok (.iconst (-1), 1) := by decide +kernel
theorem dX12_sparing_53 : decode cX12_sparing 53 = .ok (.if_icmp .ne 42, 3) := by decide +kernel
theorem dX12_sparing_56 : decode cX12_sparing 56 = .ok (.aload_n 0, 1) := by decide +kernel
theorem dX12_sparing_57 : decode cX12_sparing 57 = .ok (.getfield 102, 3) := by decide +kernel
theorem dX12_sparing_60 : decode cX12_sparing 60 = .ok (.iconst 0, 1) := by decide +kernel
theorem dX12_sparing_61 : decode cX12_sparing 61 = .ok (.iload_n 1, 1) := by decide +kernel
theorem dX12_sparing_62 : decode cX12_sparing 62 = .ok (.iadd, 1) := by decide +kernel
theorem dX12_sparing_63 : decode cX12_sparing 63 = .ok (.iload 5, 2) := by decide +kernel
theorem dX12_sparing_65 : decode cX12_sparing 65 = .ok (.iastore, 1) := by decide +kernel
theorem dX12_sparing_66 : decode cX12_sparing 66 = .ok (.aload_n 0, 1) := by decide +kernel
theorem dX12_sparing_67 : decode cX12_sparing 67 = .ok (.aload_n 0, 1) := by decide +kernel
theorem dX12_sparing_68 : decode cX12_sparing 68 = .ok (.getfield 102, 3) := by decide +kernel
theorem dX12_sparing_71 : decode cX12_sparing 71 = .ok (.bipush 18, 2) := by decide +kernel
theorem dX12_sparing_73 : decode cX12_sparing 73 = .ok (.iaload, 1) := by decide +kernel
theorem dX12_sparing_74 : decode cX12_sparing 74 = .ok (.invokevirtual 505, 3) := by decide +kernel
theorem dX12_sparing_77 : decode cX12_sparing 77 = .ok (.iload_n 2, 1) := by decide +kernel
theorem dX12_sparing_78 : decode cX12_sparing 78 = .ok (.if_icmp .lt 8, 3) := by decide +kernel
theorem dX12_sparing_81 : decode cX12_sparing 81 = .ok (.iload 5, 2) := by decide +kernel
theorem dX12_sparing_83 : decode cX12_sparing 83 = .ok (.goto 4, 3) := by decide +kernel
theorem dX12_sparing_86 : decode cX12_sparing 86 = .ok (.iconst (-1), 1) := by decide +kernel
theorem dX12_sparing_87 : decode cX12_sparing 87 = .ok (.istore 4, 2) := by decide +kernel
theorem dX12_sparing_89 : decode cX12_sparing 89 = .ok (.iinc 5 1, 3) := by decide +kernel
theorem dX12_sparing_92 : decode cX12_sparing 92 = .ok (.goto (-50), 3) := by decide +kernel
theorem dX12_sparing_95 : decode cX12_sparing 95 = .ok (.aload_n 0, 1) := by decide +kernel
theorem dX12_sparing_96 : decode cX12_sparing 96 = .ok (.getfield 102, 3) := by decide +kernel
theorem dX12_sparing_99 : decode cX12_sparing 99 = .ok (.iconst 0, 1) := by decide +kernel
theorem dX12_sparing_100 : decode cX12_sparing 100 = .ok (.iload_n 1, 1) := by decide +kernel
theorem dX12_sparing_101 : decode cX12_sparing 101 = .ok (.iadd, 1) := by decide +kernel
theorem dX12_sparing_102 : decode cX12_sparing 102 = .ok (.iload_n 3, 1) := by decide +kernel
theorem dX12_sparing_103 : decode cX12_sparing 103 = .ok (.iastore, 1) := by decide +kernel
theorem dX12_sparing_104 : decode cX12_sparing 104 = .ok (.iload 4, 2) := by decide +kernel
theorem dX12_sparing_106 : decode cX12_sparing 106 = .ok (.ireturn, 1) := by decide +kernel
theorem dX12_start_0 : decode cX12_start 0 = .ok (.aload_n 0, 1) := by decide +kernel
theorem dX12_start_1 : decode cX12_start 1 = .ok (.iconst 0, 1) := by decide +kernel
theorem dX12_start_2 : decode cX12_start 2 = .ok (.putfield 159, 3) := by decide +kernel
theorem dX12_start_5 : decode cX12_start 5 = .ok (.aload_n 0, 1) := by decide +kernel
theorem dX12_start_6 : decode cX12_start 6 = .ok (.iload_n 1, 1) := by decide +kernel
theorem dX12_start_7 : decode cX12_start 7 = .ok (.invokevirtual 424, 3) := by decide +kernel
theorem dX12_start_10 : decode cX12_start 10 = .ok (.ifCond .eq 12, 3) := by decide +kernel
theorem dX12_start_13 : decode cX12_start 13 = .ok (.aload_n 0, 1) := by decide +kernel
theorem dX12_start_14 : decode cX12_start 14 = .ok (.iload_n 2, 1) := by decide +kernel
theorem dX12_start_15 : decode cX12_start 15 = .ok (.iconst 1, 1) := by decide +kernel
theorem dX12_start_16 : decode cX12_start 16 = .ok (.invokevirtual 427, 3) := by decide +kernel
theorem dX12_start_19 : decode cX12_start 19 = .ok (.ifCond .ne 5, 3) := by decide +kernel
theorem dX12_start_22 : decode cX12_start 22 = .ok (.iconst 0, 1) := by decide +kernel
theorem dX12_start_23 : decode cX12_start 23 = .ok (.ireturn, 1) := by decide +kernel
theorem dX12_start_24 : decode cX12_start 24 = .ok (.aload_n 0, 1) := by decide +kernel
theorem dX12_start_25 : decode cX12_start 25 = .ok (.getfield 102, 3) := by decide +kernel
theorem dX12_start_28 : decode cX12_start 28 = .ok (.bipush 13, 2) := by decide +kernel
theorem dX12_start_30 : decode cX12_start 30 = .ok (.iload_n 1, 1) := by decide +kernel
theorem dX12_start_31 : decode cX12_start 31 = .ok (.iadd, 1) := by decide +kernel
theorem dX12_start_32 : decode cX12_start 32 = .ok (.iaload, 1) := by decide +kernel
theorem dX12_start_33 : decode cX12_start 33 = .ok (.istore_n 3, 1) := by decide +kernel
theorem dX12_start_34 : decode cX12_start 34 = .ok (.iconst (-1), 1) := by decide +kernel
theorem dX12_start_35 : decode cX12_start 35 = .ok (.istore 4, 2) := by decide +kernel
theorem dX12_start_37 : decode cX12_start 37 = .ok (.iconst (-1), 1) := by decide +kernel
theorem dX12_start_38 : decode cX12_start 38 = .ok (.istore 5, 2) := by decide +kernel
theorem dX12_start_40 : decode cX12_start 40 = .ok (.iconst 0, 1) := by decide +kernel
theorem dX12_start_41 : decode cX12_start 41 = .ok (.istore 6, 2) := by decide +kernel
theorem dX12_start_43 : decode cX12_start 43 = .ok (.iload 6, 2) := by decide +kernel
theorem dX12_start_45 : decode cX12_start 45 = .ok (.aload_n 0, 1) := by decide +kernel
theorem dX12_start_46 : decode cX12_start 46 = .ok (.invokevirtual 460, 3) := by decide +kernel
theorem dX12_start_49 : decode cX12_start 49 = .ok (.if_icmp .ge 80, 3) := by decide +kernel
theorem dX12_start_52 : decode cX12_start 52 = .ok (.aload_n 0, 1) := by decide +kernel
theorem dX12_start_53 : decode cX12_start 53 = .ok (.iload 6, 2) := by decide +kernel
theorem dX12_start_55 : decode cX12_start 55 = .ok (.bipush 13, 2) := by decide +kernel
theorem dX12_start_57 : decode cX12_start 57 = .ok (.aload_n 0, 1) := by decide +kernel
theorem dX12_start_58 : decode cX12_start 58 = .ok (.getfield 339, 3) := by decide +kernel
theorem dX12_start_61 : decode cX12_start 61 = .ok (.iload_n 1, 1) := by decide +kernel
theorem dX12_start_62 : decode cX12_start 62 = .ok (.invokevirtual 463, 3) := by decide +kernel
theorem dX12_start_65 : decode cX12_start 65 = .ok (.ifCond .ne 6, 3) := by decide +kernel
theorem dX12_start_68 : decode cX12_start 68 = .ok (.goto 55, 3) := by decide +kernel
theorem dX12_start_71 : decode cX12_start 71 = .ok (.aload_n 0, 1) := by decide +kernel
theorem dX12_start_72 : decode cX12_start 72 = .ok (.getfield 102, 3) := by decide +kernel
theorem dX12_start_75 : decode cX12_start 75 = .ok (.bipush 13, 2) := by decide +kernel
theorem dX12_start_77 : decode cX12_start 77 = .ok (.iload_n 1, 1) := by decide +kernel
theorem dX12_start_78 : decode cX12_start 78 = .ok (.iadd, 1) := by decide +kernel
theorem dX12_start_79 : decode cX12_start 79 = .ok (.iload 6, 2) := by decide +kernel
theorem dX12_start_81 : decode cX12_start 81 = .ok (.iastore, 1) := by decide +kernel
theorem dX12_start_82 : decode cX12_start 82 = .ok (.aload_n 0, 1) := by decide +kernel
theorem dX12_start_83 : decode cX12_start 83 = .ok (.aload_n 0, 1) := by decide +kernel
theorem dX12_start_84 : decode cX12_start 84 = .ok (.getfield 102, 3) := by decide +kernel
theorem dX12_start_87 : decode cX12_start 87 = .ok (.bipush 18, 2) := by decide +kernel
theorem dX12_start_89 : decode cX12_start 89 = .ok (.iaload, 1) := by decide +kernel
theorem dX12_start_90 : decode cX12_start 90 = .ok (.invokevirtual 505, 3) := by decide +kernel
theorem dX12_start_93 : decode cX12_start 93 = .ok (.istore 7, 2) := by decide +kernel
theorem dX12_start_95 : decode cX12_start 95 = .ok (.aload_n 0, 1) := by decide +kernel
theorem dX12_start_96 : decode cX12_start 96 = .ok (.getfield 102, 3) := by decide +kernel
theorem dX12_start_99 : decode cX12_start 99 = .ok (.bipush 13, 2) := by decide +kernel
theorem dX12_start_101 : decode cX12_start 101 = .ok (.iload_n 1, 1) := by decide +kernel
theorem dX12_start_102 : decode cX12_start 102 = .ok (.iadd, 1) := by decide +kernel
theorem dX12_start_103 : decode cX12_start 103 = .ok (.iload_n 3, 1) := by decide +kernel
theorem dX12_start_104 : decode cX12_start 104 = .ok (.iastore, 1) := by decide +kernel
theorem dX12_start_105 : decode cX12_start 105 = .ok (.iload 7, 2) := by decide +kernel
theorem dX12_start_107 : decode cX12_start 107 = .ok (.iload 5, 2) := by decide +kernel
theorem dX12_start_109 : decode cX12_start 109 = .ok (.if_icmp .gt 6, 3) := by decide +kernel
theorem dX12_start_112 : decode cX12_start 112 = .ok (.goto 11, 3) := by decide +kernel
theorem dX12_start_115 : decode cX12_start 115 = .ok (.iload 6, 2) := by decide +kernel
theorem dX12_start_117 : decode cX12_start 117 = .ok (.istore 4, 2) := by decide +kernel
theorem dX12_start_119 : decode cX12_start 119 = .ok (.iload 7, 2) := by decide +kernel
theorem dX12_start_121 : decode cX12_start 121 = .ok (.istore 5, 2) := by decide +kernel
theorem dX12_start_123 : decode cX12_start 123 = .ok (.iinc 6 1, 3) := by decide +kernel
theorem dX12_start_126 : decode cX12_start 126 = .ok (.goto (-83), 3) := by decide +kernel
theorem dX12_start_129 : decode cX12_start 129 = .ok (.iload_n 2, 1) := by decide +kernel
theorem dX12_start_130 : decode cX12_start 130 = .ok (.ifCond .ne 8, 3) := by decide +kernel
theorem dX12_start_133 : decode cX12_start 133 = .ok (.iload 4, 2) := by decide +kernel
theorem dX12_start_135 : decode cX12_start 135 = .ok (.goto 5, 3) := by decide +kernel
theorem dX12_start_138 : decode cX12_start 138 = .ok (.iload 5, 2) := by decide +kernel
theorem dX12_start_140 : decode cX12_start 140 = .ok (.ireturn, 1) := by decide +kernel
theorem dX12_alone_0 : decode cX12_alone 0 = .ok (.aload_n 0, 1) := by decide +kernel
theorem dX12_alone_1 : decode cX12_alone 1 = .ok (.iconst 0, 1) := by decide +kernel
theorem dX12_alone_2 : decode cX12_alone 2 = .ok (.putfield 159, 3) := by decide +kernel
theorem dX12_alone_5 : decode cX12_alone 5 = .ok (.aload_n 0, 1) := by decide +kernel
theorem dX12_alone_6 : decode cX12_alone 6 = .ok (.iload_n 1, 1) := by decide +kernel
theorem dX12_alone_7 : decode cX12_alone 7 = .ok (.invokevirtual 448, 3) := by decide +kernel
theorem dX12_alone_10 : decode cX12_alone 10 = .ok (.ifCond .ne 5, 3) := by decide +kernel
theorem dX12_alone_13 : decode cX12_alone 13 = .ok (.iconst 0, 1) := by decide +kernel
theorem dX12_alone_14 : decode cX12_alone 14 = .ok (.ireturn, 1) := by decide +kernel
theorem dX12_alone_15 : decode cX12_alone 15 = .ok (.aload_n 0, 1) := by decide +kernel
theorem dX12_alone_16 : decode cX12_alone 16 = .ok (.invokevirtual 436, 3) := by decide +kernel
theorem dX12_alone_19 : decode cX12_alone 19 = .ok (.iconst 0, 1) := by decide +kernel
theorem dX12_alone_20 : decode cX12_alone 20 = .ok (.istore_n 2, 1) := by decide +kernel
theorem dX12_alone_21 : decode cX12_alone 21 = .ok (.iconst 0, 1) := by decide +kernel
theorem dX12_alone_22 : decode cX12_alone 22 = .ok (.istore_n 3, 1) := by decide +kernel
theorem dX12_alone_23 : decode cX12_alone 23 = .ok (.iload_n 3, 1) := by decide +kernel
theorem dX12_alone_24 : decode cX12_alone 24 = .ok (.aload_n 0, 1) := by decide +kernel
theorem dX12_alone_25 : decode cX12_alone 25 = .ok (.getfield 342, 3) := by decide +kernel
theorem dX12_alone_28 : decode cX12_alone 28 = .ok (.if_icmp .ge 65, 3) := by decide +kernel
theorem dX12_alone_31 : decode cX12_alone 31 = .ok (.iconst 0, 1) := by decide +kernel
theorem dX12_alone_32 : decode cX12_alone 32 = .ok (.istore 4, 2) := by decide +kernel
theorem dX12_alone_34 : decode cX12_alone 34 = .ok (.bipush 24, 2) := by decide +kernel
theorem dX12_alone_36 : decode cX12_alone 36 = .ok (.iload_n 1, 1) := by decide +kernel
theorem dX12_alone_37 : decode cX12_alone 37 = .ok (.imul, 1) := by decide +kernel
theorem dX12_alone_38 : decode cX12_alone 38 = .ok (.istore 5, 2) := by decide +kernel
theorem dX12_alone_40 : decode cX12_alone 40 = .ok (.iload 5, 2) := by decide +kernel
theorem dX12_alone_42 : decode cX12_alone 42 = .ok (.bipush 24, 2) := by decide +kernel
theorem dX12_alone_44 : decode cX12_alone 44 = .ok (.iload_n 1, 1) := by decide +kernel
theorem dX12_alone_45 : decode cX12_alone 45 = .ok (.imul, 1) := by decide +kernel
theorem dX12_alone_46 : decode cX12_alone 46 = .ok (.bipush 24, 2) := by decide +kernel
theorem dX12_alone_48 : decode cX12_alone 48 = .ok (.iadd, 1) := by decide +kernel
theorem dX12_alone_49 : decode cX12_alone 49 = .ok (.if_icmp .ge 21, 3) := by decide +kernel
theorem dX12_alone_52 : decode cX12_alone 52 = .ok (.iload 4, 2) := by decide +kernel
theorem dX12_alone_54 : decode cX12_alone 54 = .ok (.aload_n 0, 1) := by decide +kernel
theorem dX12_alone_55 : decode cX12_alone 55 = .ok (.iload_n 3, 1) := by decide +kernel
theorem dX12_alone_56 : decode cX12_alone 56 = .ok (.iload 5, 2) := by decide +kernel
theorem dX12_alone_58 : decode cX12_alone 58 = .ok (.invokevirtual 430, 3) := by decide +kernel
theorem dX12_alone_61 : decode cX12_alone 61 = .ok (.ior, 1) := by decide +kernel
theorem dX12_alone_62 : decode cX12_alone 62 = .ok (.istore 4, 2) := by decide +kernel
theorem dX12_alone_64 : decode cX12_alone 64 = .ok (.iinc 5 1, 3) := by decide +kernel
theorem dX12_alone_67 : decode cX12_alone 67 = .ok (.goto (-27), 3) := by decide +kernel
theorem dX12_alone_70 : decode cX12_alone 70 = .ok (.iload_n 2, 1) := by decide +kernel
theorem dX12_alone_71 : decode cX12_alone 71 = .ok (.iload 4, 2) := by decide +kernel
theorem dX12_alone_73 : decode cX12_alone 73 = .ok (.invokestatic 466, 3) := by decide +kernel
theorem dX12_alone_76 : decode cX12_alone 76 = .ok (.iconst 1, 1) := by decide +kernel
theorem dX12_alone_77 : decode cX12_alone 77 = .ok (.if_icmp .ne 7, 3) := by decide +kernel
theorem dX12_alone_80 : decode cX12_alone 80 = .ok (.iconst 1, 1) := by decide +kernel
theorem dX12_alone_81 : decode cX12_alone 81 = .ok (.goto 4, 3) := by decide +kernel
theorem dX12_alone_84 : decode cX12_alone 84 = .ok (.iconst 0, 1) := by decide +kernel
theorem dX12_alone_85 : decode cX12_alone 85 = .ok (.iadd, 1) := by decide +kernel
theorem dX12_alone_86 : decode cX12_alone 86 = .ok (.istore_n 2, 1) := by decide +kernel
theorem dX12_alone_87 : decode cX12_alone 87 = .ok (.iinc 3 1, 3) := by decide +kernel
theorem dX12_alone_90 : decode cX12_alone 90 = .ok (.goto (-67), 3) := by decide +kernel
theorem dX12_alone_93 : decode cX12_alone 93 = .ok (.iload_n 2, 1) := by decide +kernel
theorem dX12_alone_94 : decode cX12_alone 94 = .ok (.ireturn, 1) := by decide +kernel
theorem dX12_image_0 : decode cX12_image 0 = .ok (.aload_n 0, 1) := by decide +kernel
theorem dX12_image_1 : decode cX12_image 1 = .ok (.iconst 0, 1) := by decide +kernel
theorem dX12_image_2 : decode cX12_image 2 = .ok (.putfield 159, 3) := by decide +kernel
theorem dX12_image_5 : decode cX12_image 5 = .ok (.aload_n 0, 1) := by decide +kernel
theorem dX12_image_6 : decode cX12_image 6 = .ok (.iconst 1, 1) := by decide +kernel
theorem dX12_image_7 : decode cX12_image 7 = .ok (.putfield 361, 3) := by decide +kernel
theorem dX12_image_10 : decode cX12_image 10 = .ok (.aload_n 0, 1) := by decide +kernel
theorem dX12_image_11 : decode cX12_image 11 = .ok (.aload_n 0, 1) := by decide +kernel
theorem dX12_image_12 : decode cX12_image 12 = .ok (.getfield 355, 3) := by decide +kernel
theorem dX12_image_15 : decode cX12_image 15 = .ok (.putfield 525, 3) := by decide +kernel
theorem dX12_image_18 : decode cX12_image 18 = .ok (.aload_n 0, 1) := by decide +kernel
theorem dX12_image_19 : decode cX12_image 19 = .ok (.aload_n 0, 1) := by decide +kernel
theorem dX12_image_20 : decode cX12_image 20 = .ok (.getfield 358, 3) := by decide +kernel
theorem dX12_image_23 : decode cX12_image 23 = .ok (.putfield 528, 3) := by decide +kernel
theorem dX12_image_26 : decode cX12_image 26 = .ok (.aload_n 0, 1) := by decide +kernel
theorem dX12_image_27 : decode cX12_image 27 = .ok (.aload_n 0, 1) := by decide +kernel
theorem dX12_image_28 : decode cX12_image 28 = .ok (.getfield 102, 3) := by decide +kernel
theorem dX12_image_31 : decode cX12_image 31 = .ok (.aload_n 0, 1) := by decide +kernel
theorem dX12_image_32 : decode cX12_image 32 = .ok (.getfield 150, 3) := by decide +kernel
theorem dX12_image_35 : decode cX12_image 35 = .ok (.invokevirtual 351, 3) := by decide +kernel
theorem dX12_image_38 : decode cX12_image 38 = .ok (.aload_n 0, 1) := by decide +kernel
theorem dX12_image_39 : decode cX12_image 39 = .ok (.aload_n 0, 1) := by decide +kernel
theorem dX12_image_40 : decode cX12_image 40 = .ok (.getfield 105, 3) := by decide +kernel
theorem dX12_image_43 : decode cX12_image 43 = .ok (.aload_n 0, 1) := by decide +kernel
theorem dX12_image_44 : decode cX12_image 44 = .ok (.getfield 153, 3) := by decide +kernel
theorem dX12_image_47 : decode cX12_image 47 = .ok (.invokevirtual 351, 3) := by decide +kernel
theorem dX12_image_50 : decode cX12_image 50 = .ok (.aload_n 0, 1) := by decide +kernel
theorem dX12_image_51 : decode cX12_image 51 = .ok (.aload_n 0, 1) := by decide +kernel
theorem dX12_image_52 : decode cX12_image 52 = .ok (.getfield 144, 3) := by decide +kernel
theorem dX12_image_55 : decode cX12_image 55 = .ok (.aload_n 0, 1) := by decide +kernel
theorem dX12_image_56 : decode cX12_image 56 = .ok (.getfield 156, 3) := by decide +kernel
theorem dX12_image_59 : decode cX12_image 59 = .ok (.invokevirtual 351, 3) := by decide +kernel
theorem dX12_image_62 : decode cX12_image 62 = .ok (.return_, 1) := by decide +kernel
theorem dX12_restore_0 : decode cX12_restore 0 = .ok (.aload_n 0, 1) := by decide +kernel
theorem dX12_restore_1 : decode cX12_restore 1 = .ok (.iconst 0, 1) := by decide +kernel
theorem dX12_restore_2 : decode cX12_restore 2 = .ok (.putfield 159, 3) := by decide +kernel
theorem dX12_restore_5 : decode cX12_restore 5 = .ok (.aload_n 0, 1) := by decide +kernel
theorem dX12_restore_6 : decode cX12_restore 6 = .ok (.getfield 361, 3) := by decide +kernel
theorem dX12_restore_9 : decode cX12_restore 9 = .ok (.ifCond .ne 5, 3) := by decide +kernel
theorem dX12_restore_12 : decode cX12_restore 12 = .ok (.iconst 0, 1) := by decide +kernel
theorem dX12_restore_13 : decode cX12_restore 13 = .ok (.ireturn, 1) := by decide +kernel
theorem dX12_restore_14 : decode cX12_restore 14 = .ok (.aload_n 0, 1) := by decide +kernel
theorem dX12_restore_15 : decode cX12_restore 15 = .ok (.aload_n 0, 1) := by decide +kernel
theorem dX12_restore_16 : decode cX12_restore 16 = .ok (.getfield 525, 3) := by decide +kernel
theorem dX12_restore_19 : decode cX12_restore 19 = .ok (.putfield 355, 3) := by decide +kernel
theorem dX12_restore_22 : decode cX12_restore 22 = .ok (.aload_n 0, 1) := by decide +kernel
theorem dX12_restore_23 : decode cX12_restore 23 = .ok (.aload_n 0, 1) := by decide +kernel
theorem dX12_restore_24 : decode cX12_restore 24 = .ok (.getfield 528, 3) := by decide +kernel
theorem dX12_restore_27 : decode cX12_restore 27 = .ok (.putfield 358, 3) := by decide +kernel
theorem dX12_restore_30 : decode cX12_restore 30 = .ok (.aload_n 0, 1) := by decide +kernel
theorem dX12_restore_31 : decode cX12_restore 31 = .ok (.aload_n 0, 1) := by decide +kernel
theorem dX12_restore_32 : decode cX12_restore 32 = .ok (.getfield 150, 3) := by decide +kernel
theorem dX12_restore_35 : decode cX12_restore 35 = .ok (.aload_n 0, 1) := by decide +kernel
theorem dX12_restore_36 : decode cX12_restore 36 = .ok (.getfield 102, 3) := by decide +kernel
theorem dX12_restore_39 : decode cX12_restore 39 = .ok (.invokevirtual 351, 3) := by decide +kernel
theorem dX12_restore_42 : decode cX12_restore 42 = .ok (.aload_n 0, 1) := by decide +kernel
theorem dX12_restore_43 : decode cX12_restore 43 = .ok (.aload_n 0, 1) := by decide +kernel
theorem dX12_restore_44 : decode cX12_restore 44 = .ok (.getfield 153, 3) := by decide +kernel
theorem dX12_restore_47 : decode cX12_restore 47 = .ok (.aload_n 0, 1) := by decide +kernel
theorem dX12_restore_48 : decode cX12_restore 48 = .ok (.getfield 105, 3) := by decide +kernel
theorem dX12_restore_51 : decode cX12_restore 51 = .ok (.invokevirtual 351, 3) := by decide +kernel
theorem dX12_restore_54 : decode cX12_restore 54 = .ok (.aload_n 0, 1) := by decide +kernel
theorem dX12_restore_55 : decode cX12_restore 55 = .ok (.aload_n 0, 1) := by decide +kernel
theorem dX12_restore_56 : decode cX12_restore 56 = .ok (.getfield 156, 3) := by decide +kernel
theorem dX12_restore_59 : decode cX12_restore 59 = .ok (.aload_n 0, 1) := by decide +kernel
theorem dX12_restore_60 : decode cX12_restore 60 = .ok (.getfield 144, 3) := by decide +kernel
theorem dX12_restore_63 : decode cX12_restore 63 = .ok (.invokevirtual 351, 3) := by decide +kernel
theorem dX12_restore_66 : decode cX12_restore 66 = .ok (.iconst 1, 1) := by decide +kernel
theorem dX12_restore_67 : decode cX12_restore 67 = .ok (.ireturn, 1) := by decide +kernel
theorem dJ11_isValidCodePoint_9a6ad_0 : decode cJ11_isValidCodePoint_9a6ad 0 = .ok (.iload_n 0, 1) := by decide +kernel
theorem dJ11_isValidCodePoint_9a6ad_1 : decode cJ11_isValidCodePoint_9a6ad 1 = .ok (.bipush 16, 2) := by decide +kernel
theorem dJ11_isValidCodePoint_9a6ad_3 : decode cJ11_isValidCodePoint_9a6ad 3 = .ok (.iushr, 1) := by decide +kernel
theorem dJ11_isValidCodePoint_9a6ad_4 : decode cJ11_isValidCodePoint_9a6ad 4 = .ok (.istore_n 1, 1) := by decide +kernel
theorem dJ11_isValidCodePoint_9a6ad_5 : decode cJ11_isValidCodePoint_9a6ad 5 = .ok (.iload_n 1, 1) := by decide +kernel
theorem dJ11_isValidCodePoint_9a6ad_6 : decode cJ11_isValidCodePoint_9a6ad 6 = .ok (.bipush 17, 2) := by decide +kernel
theorem dJ11_isValidCodePoint_9a6ad_8 : decode cJ11_isValidCodePoint_9a6ad 8 = .ok (.if_icmp .ge 7, 3) := by decide +kernel
theorem dJ11_isValidCodePoint_9a6ad_11 : decode cJ11_isValidCodePoint_9a6ad 11 = .ok (.iconst 1, 1) := by decide +kernel
theorem dJ11_isValidCodePoint_9a6ad_12 : decode cJ11_isValidCodePoint_9a6ad 12 = .ok (.goto 4, 3) := by decide +kernel
theorem dJ11_isValidCodePoint_9a6ad_15 : decode cJ11_isValidCodePoint_9a6ad 15 = .ok (.iconst 0, 1) := by decide +kernel
theorem dJ11_isValidCodePoint_9a6ad_16 : decode cJ11_isValidCodePoint_9a6ad 16 = .ok (.ireturn, 1) := by decide +kernel
theorem dJ11_highSurrogate_5068e_0 : decode cJ11_highSurrogate_5068e 0 = .ok (.iload_n 0, 1) := by decide +kernel
theorem dJ11_highSurrogate_5068e_1 : decode cJ11_highSurrogate_5068e 1 = .ok (.bipush 10, 2) := by decide +kernel
theorem dJ11_highSurrogate_5068e_3 : decode cJ11_highSurrogate_5068e 3 = .ok (.iushr, 1) := by decide +kernel
theorem dJ11_highSurrogate_5068e_4 : decode cJ11_highSurrogate_5068e 4 = .ok (.ldc 110, 2) := by decide +kernel
theorem dJ11_highSurrogate_5068e_6 : decode cJ11_highSurrogate_5068e 6 = .ok (.iadd, 1) := by decide +kernel
theorem dJ11_highSurrogate_5068e_7 : decode cJ11_highSurrogate_5068e 7 = .ok (.i2c, 1) := by decide +kernel
theorem dJ11_highSurrogate_5068e_8 : decode cJ11_highSurrogate_5068e 8 = .ok (.ireturn, 1) := by decide +kernel
theorem dJ11_lowSurrogate_5068e_0 : decode cJ11_lowSurrogate_5068e 0 = .ok (.iload_n 0, 1) := by decide +kernel
theorem dJ11_lowSurrogate_5068e_1 : decode cJ11_lowSurrogate_5068e 1 = .ok (.sipush 1023, 3) := by decide +kernel
theorem dJ11_lowSurrogate_5068e_4 : decode cJ11_lowSurrogate_5068e 4 = .ok (.iand, 1) := by decide +kernel
theorem dJ11_lowSurrogate_5068e_5 : decode cJ11_lowSurrogate_5068e 5 = .ok (.ldc 76, 2) := by decide +kernel
theorem dJ11_lowSurrogate_5068e_7 : decode cJ11_lowSurrogate_5068e 7 = .ok (.iadd, 1) := by decide +kernel
theorem dJ11_lowSurrogate_5068e_8 : decode cJ11_lowSurrogate_5068e 8 = .ok (.i2c, 1) := by decide +kernel
theorem dJ11_lowSurrogate_5068e_9 : decode cJ11_lowSurrogate_5068e 9 = .ok (.ireturn, 1) := by decide +kernel
theorem dJ6_bitCount_0f7a4_0 : decode cJ6_bitCount_0f7a4 0 = .ok (.iload_n 0, 1) := by decide +kernel
theorem dJ6_bitCount_0f7a4_1 : decode cJ6_bitCount_0f7a4 1 = .ok (.iload_n 0, 1) := by decide +kernel
theorem dJ6_bitCount_0f7a4_2 : decode cJ6_bitCount_0f7a4 2 = .ok (.iconst 1, 1) := by decide +kernel
theorem dJ6_bitCount_0f7a4_3 : decode cJ6_bitCount_0f7a4 3 = .ok (.iushr, 1) := by decide +kernel
theorem dJ6_bitCount_0f7a4_4 : decode cJ6_bitCount_0f7a4 4 = .ok (.ldc_w 265, 3) := by decide +kernel
theorem dJ6_bitCount_0f7a4_7 : decode cJ6_bitCount_0f7a4 7 = .ok (.iand, 1) := by decide +kernel
theorem dJ6_bitCount_0f7a4_8 : decode cJ6_bitCount_0f7a4 8 = .ok (.isub, 1) := by decide +kernel
theorem dJ6_bitCount_0f7a4_9 : decode cJ6_bitCount_0f7a4 9 = .ok (.istore_n 0, 1) := by decide +kernel
theorem dJ6_bitCount_0f7a4_10 : decode cJ6_bitCount_0f7a4 10 = .ok (.iload_n 0, 1) := by decide +kernel
theorem dJ6_bitCount_0f7a4_11 : decode cJ6_bitCount_0f7a4 11 = .ok (.ldc_w 266, 3) := by decide +kernel
theorem dJ6_bitCount_0f7a4_14 : decode cJ6_bitCount_0f7a4 14 = .ok (.iand, 1) := by decide +kernel
theorem dJ6_bitCount_0f7a4_15 : decode cJ6_bitCount_0f7a4 15 = .ok (.iload_n 0, 1) := by decide +kernel
theorem dJ6_bitCount_0f7a4_16 : decode cJ6_bitCount_0f7a4 16 = .ok (.iconst 2, 1) := by decide +kernel
theorem dJ6_bitCount_0f7a4_17 : decode cJ6_bitCount_0f7a4 17 = .ok (.iushr, 1) := by decide +kernel
theorem dJ6_bitCount_0f7a4_18 : decode cJ6_bitCount_0f7a4 18 = .ok (.ldc_w 266, 3) := by decide +kernel
theorem dJ6_bitCount_0f7a4_21 : decode cJ6_bitCount_0f7a4 21 = .ok (.iand, 1) := by decide +kernel
theorem dJ6_bitCount_0f7a4_22 : decode cJ6_bitCount_0f7a4 22 = .ok (.iadd, 1) := by decide +kernel
theorem dJ6_bitCount_0f7a4_23 : decode cJ6_bitCount_0f7a4 23 = .ok (.istore_n 0, 1) := by decide +kernel
theorem dJ6_bitCount_0f7a4_24 : decode cJ6_bitCount_0f7a4 24 = .ok (.iload_n 0, 1) := by decide +kernel
theorem dJ6_bitCount_0f7a4_25 : decode cJ6_bitCount_0f7a4 25 = .ok (.iload_n 0, 1) := by decide +kernel
theorem dJ6_bitCount_0f7a4_26 : decode cJ6_bitCount_0f7a4 26 = .ok (.iconst 4, 1) := by decide +kernel
theorem dJ6_bitCount_0f7a4_27 : decode cJ6_bitCount_0f7a4 27 = .ok (.iushr, 1) := by decide +kernel
theorem dJ6_bitCount_0f7a4_28 : decode cJ6_bitCount_0f7a4 28 = .ok (.iadd, 1) := by decide +kernel
theorem dJ6_bitCount_0f7a4_29 : decode cJ6_bitCount_0f7a4 29 = .ok (.ldc_w 267, 3) := by decide +kernel
theorem dJ6_bitCount_0f7a4_32 : decode cJ6_bitCount_0f7a4 32 = .ok (.iand, 1) := by decide +kernel
theorem dJ6_bitCount_0f7a4_33 : decode cJ6_bitCount_0f7a4 33 = .ok (.istore_n 0, 1) := by decide +kernel
theorem dJ6_bitCount_0f7a4_34 : decode cJ6_bitCount_0f7a4 34 = .ok (.iload_n 0, 1) := by decide +kernel
theorem dJ6_bitCount_0f7a4_35 : decode cJ6_bitCount_0f7a4 35 = .ok (.iload_n 0, 1) := by decide +kernel
theorem dJ6_bitCount_0f7a4_36 : decode cJ6_bitCount_0f7a4 36 = .ok (.bipush 8, 2) := by decide +kernel
theorem dJ6_bitCount_0f7a4_38 : decode cJ6_bitCount_0f7a4 38 = .ok (.iushr, 1) := by decide +kernel
theorem dJ6_bitCount_0f7a4_39 : decode cJ6_bitCount_0f7a4 39 = .ok (.iadd, 1) := by decide +kernel
theorem dJ6_bitCount_0f7a4_40 : decode cJ6_bitCount_0f7a4 40 = .ok (.istore_n 0, 1) := by decide +kernel
theorem dJ6_bitCount_0f7a4_41 : decode cJ6_bitCount_0f7a4 41 = .ok (.iload_n 0, 1) := by decide +kernel
theorem dJ6_bitCount_0f7a4_42 : decode cJ6_bitCount_0f7a4 42 = .ok (.iload_n 0, 1) := by decide +kernel
theorem dJ6_bitCount_0f7a4_43 : decode cJ6_bitCount_0f7a4 43 = .ok (.bipush 16, 2) := by decide +kernel
theorem dJ6_bitCount_0f7a4_45 : decode cJ6_bitCount_0f7a4 45 = .ok (.iushr, 1) := by decide +kernel
theorem dJ6_bitCount_0f7a4_46 : decode cJ6_bitCount_0f7a4 46 = .ok (.iadd, 1) := by decide +kernel
theorem dJ6_bitCount_0f7a4_47 : decode cJ6_bitCount_0f7a4 47 = .ok (.istore_n 0, 1) := by decide +kernel
theorem dJ6_bitCount_0f7a4_48 : decode cJ6_bitCount_0f7a4 48 = .ok (.iload_n 0, 1) := by decide +kernel
theorem dJ6_bitCount_0f7a4_49 : decode cJ6_bitCount_0f7a4 49 = .ok (.bipush 63, 2) := by decide +kernel
theorem dJ6_bitCount_0f7a4_51 : decode cJ6_bitCount_0f7a4 51 = .ok (.iand, 1) := by decide +kernel
theorem dJ6_bitCount_0f7a4_52 : decode cJ6_bitCount_0f7a4 52 = .ok (.ireturn, 1) := by decide +kernel
theorem dJ9_abs_0f7a4_0 : decode cJ9_abs_0f7a4 0 = .ok (.iload_n 0, 1) := by decide +kernel
theorem dJ9_abs_0f7a4_1 : decode cJ9_abs_0f7a4 1 = .ok (.ifCond .ge 8, 3) := by decide +kernel
theorem dJ9_abs_0f7a4_4 : decode cJ9_abs_0f7a4 4 = .ok (.iload_n 0, 1) := by decide +kernel
theorem dJ9_abs_0f7a4_5 : decode cJ9_abs_0f7a4 5 = .ok (.ineg, 1) := by decide +kernel
theorem dJ9_abs_0f7a4_6 : decode cJ9_abs_0f7a4 6 = .ok (.goto 4, 3) := by decide +kernel
theorem dJ9_abs_0f7a4_9 : decode cJ9_abs_0f7a4 9 = .ok (.iload_n 0, 1) := by decide +kernel
theorem dJ9_abs_0f7a4_10 : decode cJ9_abs_0f7a4 10 = .ok (.ireturn, 1) := by decide +kernel
theorem dJ9_max_7cf53_0 : decode cJ9_max_7cf53 0 = .ok (.iload_n 0, 1) := by decide +kernel
theorem dJ9_max_7cf53_1 : decode cJ9_max_7cf53 1 = .ok (.iload_n 1, 1) := by decide +kernel
theorem dJ9_max_7cf53_2 : decode cJ9_max_7cf53 2 = .ok (.if_icmp .lt 7, 3) := by decide +kernel
theorem dJ9_max_7cf53_5 : decode cJ9_max_7cf53 5 = .ok (.iload_n 0, 1) := by decide +kernel
theorem dJ9_max_7cf53_6 : decode cJ9_max_7cf53 6 = .ok (.goto 4, 3) := by decide +kernel
theorem dJ9_max_7cf53_9 : decode cJ9_max_7cf53 9 = .ok (.iload_n 1, 1) := by decide +kernel
theorem dJ9_max_7cf53_10 : decode cJ9_max_7cf53 10 = .ok (.ireturn, 1) := by decide +kernel
theorem dJ9_min_7cf53_0 : decode cJ9_min_7cf53 0 = .ok (.iload_n 0, 1) := by decide +kernel
theorem dJ9_min_7cf53_1 : decode cJ9_min_7cf53 1 = .ok (.iload_n 1, 1) := by decide +kernel
theorem dJ9_min_7cf53_2 : decode cJ9_min_7cf53 2 = .ok (.if_icmp .gt 7, 3) := by decide +kernel
theorem dJ9_min_7cf53_5 : decode cJ9_min_7cf53 5 = .ok (.iload_n 0, 1) := by decide +kernel
theorem dJ9_min_7cf53_6 : decode cJ9_min_7cf53 6 = .ok (.goto 4, 3) := by decide +kernel
theorem dJ9_min_7cf53_9 : decode cJ9_min_7cf53 9 = .ok (.iload_n 1, 1) := by decide +kernel
theorem dJ9_min_7cf53_10 : decode cJ9_min_7cf53 10 = .ok (.ireturn, 1) := by decide +kernel
theorem dJ0_length_8abf5_0 : decode cJ0_length_8abf5 0 = .ok (.aload_n 0, 1) := by decide +kernel
theorem dJ0_length_8abf5_1 : decode cJ0_length_8abf5 1 = .ok (.getfield 9, 3) := by decide +kernel
theorem dJ0_length_8abf5_4 : decode cJ0_length_8abf5 4 = .ok (.arraylength, 1) := by decide +kernel
theorem dJ0_length_8abf5_5 : decode cJ0_length_8abf5 5 = .ok (.aload_n 0, 1) := by decide +kernel
theorem dJ0_length_8abf5_6 : decode cJ0_length_8abf5 6 = .ok (.invokevirtual 335, 3) := by decide +kernel
theorem dJ0_length_8abf5_9 : decode cJ0_length_8abf5 9 = .ok (.ishr, 1) := by decide +kernel
theorem dJ0_length_8abf5_10 : decode cJ0_length_8abf5 10 = .ok (.ireturn, 1) := by decide +kernel
theorem dJ0_charAt_5068e_0 : decode cJ0_charAt_5068e 0 = .ok (.aload_n 0, 1) := by decide +kernel
theorem dJ0_charAt_5068e_1 : decode cJ0_charAt_5068e 1 = .ok (.invokevirtual 492, 3) := by decide +kernel
theorem dJ0_charAt_5068e_4 : decode cJ0_charAt_5068e 4 = .ok (.ifCond .eq 12, 3) := by decide +kernel
theorem dJ0_charAt_5068e_7 : decode cJ0_charAt_5068e 7 = .ok (.aload_n 0, 1) := by decide +kernel
theorem dJ0_charAt_5068e_8 : decode cJ0_charAt_5068e 8 = .ok (.getfield 9, 3) := by decide +kernel
theorem dJ0_charAt_5068e_11 : decode cJ0_charAt_5068e 11 = .ok (.iload_n 1, 1) := by decide +kernel
theorem dJ0_charAt_5068e_12 : decode cJ0_charAt_5068e 12 = .ok (.invokestatic 495, 3) := by decide +kernel
theorem dJ0_charAt_5068e_15 : decode cJ0_charAt_5068e 15 = .ok (.ireturn, 1) := by decide +kernel
theorem dJ0_charAt_5068e_16 : decode cJ0_charAt_5068e 16 = .ok (.aload_n 0, 1) := by decide +kernel
theorem dJ0_charAt_5068e_17 : decode cJ0_charAt_5068e 17 = .ok (.getfield 9, 3) := by decide +kernel
theorem dJ0_charAt_5068e_20 : decode cJ0_charAt_5068e 20 = .ok (.iload_n 1, 1) := by decide +kernel
theorem dJ0_charAt_5068e_21 : decode cJ0_charAt_5068e 21 = .ok (.invokestatic 498, 3) := by decide +kernel
theorem dJ0_charAt_5068e_24 : decode cJ0_charAt_5068e 24 = .ok (.ireturn, 1) := by decide +kernel
theorem dJ0_indexOf_0f7a4_0 : decode cJ0_indexOf_0f7a4 0 = .ok (.aload_n 0, 1) := by decide +kernel
theorem dJ0_indexOf_0f7a4_1 : decode cJ0_indexOf_0f7a4 1 = .ok (.iload_n 1, 1) := by decide +kernel
theorem dJ0_indexOf_0f7a4_2 : decode cJ0_indexOf_0f7a4 2 = .ok (.iconst 0, 1) := by decide +kernel
theorem dJ0_indexOf_0f7a4_3 : decode cJ0_indexOf_0f7a4 3 = .ok (.invokevirtual 633, 3) := by decide +kernel
theorem dJ0_indexOf_0f7a4_6 : decode cJ0_indexOf_0f7a4 6 = .ok (.ireturn, 1) := by decide +kernel
theorem dJ0_indexOf_7cf53_0 : decode cJ0_indexOf_7cf53 0 = .ok (.aload_n 0, 1) := by decide +kernel
theorem dJ0_indexOf_7cf53_1 : decode cJ0_indexOf_7cf53 1 = .ok (.invokevirtual 492, 3) := by decide +kernel
theorem dJ0_indexOf_7cf53_4 : decode cJ0_indexOf_7cf53 4 = .ok (.ifCond .eq 19, 3) := by decide +kernel
theorem dJ0_indexOf_7cf53_7 : decode cJ0_indexOf_7cf53 7 = .ok (.aload_n 0, 1) := by decide +kernel
theorem dJ0_indexOf_7cf53_8 : decode cJ0_indexOf_7cf53 8 = .ok (.getfield 9, 3) := by decide +kernel
theorem dJ0_indexOf_7cf53_11 : decode cJ0_indexOf_7cf53 11 = .ok (.iload_n 1, 1) := by decide +kernel
theorem dJ0_indexOf_7cf53_12 : decode cJ0_indexOf_7cf53 12 = .ok (.iload_n 2, 1) := by decide +kernel
theorem dJ0_indexOf_7cf53_13 : decode cJ0_indexOf_7cf53 13 = .ok (.aload_n 0, 1) := by decide +kernel
theorem dJ0_indexOf_7cf53_14 : decode cJ0_indexOf_7cf53 14 = .ok (.invokevirtual 505, 3) := by decide +kernel
theorem dJ0_indexOf_7cf53_17 : decode cJ0_indexOf_7cf53 17 = .ok (.invokestatic 637, 3) := by decide +kernel
theorem dJ0_indexOf_7cf53_20 : decode cJ0_indexOf_7cf53 20 = .ok (.goto 16, 3) := by decide +kernel
theorem dJ0_indexOf_7cf53_23 : decode cJ0_indexOf_7cf53 23 = .ok (.aload_n 0, 1) := by decide +kernel
theorem dJ0_indexOf_7cf53_24 : decode cJ0_indexOf_7cf53 24 = .ok (.getfield 9, 3) := by decide +kernel
theorem dJ0_indexOf_7cf53_27 : decode cJ0_indexOf_7cf53 27 = .ok (.iload_n 1, 1) := by decide +kernel
theorem dJ0_indexOf_7cf53_28 : decode cJ0_indexOf_7cf53 28 = .ok (.iload_n 2, 1) := by decide +kernel
theorem dJ0_indexOf_7cf53_29 : decode cJ0_indexOf_7cf53 29 = .ok (.aload_n 0, 1) := by decide +kernel
theorem dJ0_indexOf_7cf53_30 : decode cJ0_indexOf_7cf53 30 = .ok (.invokevirtual 505, 3) := by decide +kernel
theorem dJ0_indexOf_7cf53_33 : decode cJ0_indexOf_7cf53 33 = .ok (.invokestatic 640, 3) := by decide +kernel
theorem dJ0_indexOf_7cf53_36 : decode cJ0_indexOf_7cf53 36 = .ok (.ireturn, 1) := by decide +kernel
theorem dJ0_coder_7d493_0 : decode cJ0_coder_7d493 0 = .ok (.getstatic 38, 3) := by decide +kernel
theorem dJ0_coder_7d493_3 : decode cJ0_coder_7d493 3 = .ok (.ifCond .eq 10, 3) := by decide +kernel
theorem dJ0_coder_7d493_6 : decode cJ0_coder_7d493 6 = .ok (.aload_n 0, 1) := by decide +kernel
theorem dJ0_coder_7d493_7 : decode cJ0_coder_7d493 7 = .ok (.getfield 15, 3) := by decide +kernel
theorem dJ0_coder_7d493_10 : decode cJ0_coder_7d493 10 = .ok (.goto 4, 3) := by decide +kernel
theorem dJ0_coder_7d493_13 : decode cJ0_coder_7d493 13 = .ok (.iconst 1, 1) := by decide +kernel
theorem dJ0_coder_7d493_14 : decode cJ0_coder_7d493 14 = .ok (.ireturn, 1) := by decide +kernel
theorem dJ0_isLatin1_aae02_0 : decode cJ0_isLatin1_aae02 0 = .ok (.getstatic 38, 3) := by decide +kernel
theorem dJ0_isLatin1_aae02_3 : decode cJ0_isLatin1_aae02 3 = .ok (.ifCond .eq 14, 3) := by decide +kernel
theorem dJ0_isLatin1_aae02_6 : decode cJ0_isLatin1_aae02 6 = .ok (.aload_n 0, 1) := by decide +kernel
theorem dJ0_isLatin1_aae02_7 : decode cJ0_isLatin1_aae02 7 = .ok (.getfield 15, 3) := by decide +kernel
theorem dJ0_isLatin1_aae02_10 : decode cJ0_isLatin1_aae02 10 = .ok (.ifCond .ne 7, 3) := by decide +kernel
theorem dJ0_isLatin1_aae02_13 : decode cJ0_isLatin1_aae02 13 = .ok (.iconst 1, 1) := by decide +kernel
theorem dJ0_isLatin1_aae02_14 : decode cJ0_isLatin1_aae02 14 = .ok (.goto 4, 3) := by decide +kernel
theorem dJ0_isLatin1_aae02_17 : decode cJ0_isLatin1_aae02 17 = .ok (.iconst 0, 1) := by decide +kernel
theorem dJ0_isLatin1_aae02_18 : decode cJ0_isLatin1_aae02 18 = .ok (.ireturn, 1) := by decide +kernel
theorem dJ0_checkIndex_df160_0 : decode cJ0_checkIndex_df160 0 = .ok (.iload_n 0, 1) := by decide +kernel
theorem dJ0_checkIndex_df160_1 : decode cJ0_checkIndex_df160 1 = .ok (.iload_n 1, 1) := by decide +kernel
theorem dJ0_checkIndex_df160_2 : decode cJ0_checkIndex_df160 2 = .ok (.getstatic 1053, 3) := by decide +kernel
theorem dJ0_checkIndex_df160_5 : decode cJ0_checkIndex_df160 5 = .ok (.invokestatic 1059, 3) := by decide +kernel
theorem dJ0_checkIndex_df160_8 : decode cJ0_checkIndex_df160 8 = .ok (.pop, 1) := by decide +kernel
theorem dJ0_checkIndex_df160_9 : decode cJ0_checkIndex_df160 9 = .ok (.return_, 1) := by decide +kernel
theorem dJ0_checkBoundsBeginEnd_23922_0 : decode cJ0_checkBoundsBeginEnd_23922 0 = .ok (.iload_n 0, 1) := by decide +kernel
theorem dJ0_checkBoundsBeginEnd_23922_1 : decode cJ0_checkBoundsBeginEnd_23922 1 = .ok (.iload_n 1, 1) := by decide +kernel
theorem dJ0_checkBoundsBeginEnd_23922_2 : decode cJ0_checkBoundsBeginEnd_23922 2 = .ok (.iload_n 2, 1) := by decide +kernel
theorem dJ0_checkBoundsBeginEnd_23922_3 : decode cJ0_checkBoundsBeginEnd_23922 3 = .ok (.getstatic 1053, 3) := by decide +kernel
theorem dJ0_checkBoundsBeginEnd_23922_6 : decode cJ0_checkBoundsBeginEnd_23922 6 = .ok (.invokestatic 1062, 3) := by decide +kernel
theorem dJ0_checkBoundsBeginEnd_23922_9 : decode cJ0_checkBoundsBeginEnd_23922 9 = .ok (.pop, 1) := by decide +kernel
theorem dJ0_checkBoundsBeginEnd_23922_10 : decode cJ0_checkBoundsBeginEnd_23922 10 = .ok (.return_, 1) := by decide +kernel
theorem dJ1_charAt_3b067_0 : decode cJ1_charAt_3b067 0 = .ok (.iload_n 1, 1) := by decide +kernel
theorem dJ1_charAt_3b067_1 : decode cJ1_charAt_3b067 1 = .ok (.aload_n 0, 1) := by decide +kernel
theorem dJ1_charAt_3b067_2 : decode cJ1_charAt_3b067 2 = .ok (.arraylength, 1) := by decide +kernel
theorem dJ1_charAt_3b067_3 : decode cJ1_charAt_3b067 3 = .ok (.invokestatic 9, 3) := by decide +kernel
theorem dJ1_charAt_3b067_6 : decode cJ1_charAt_3b067 6 = .ok (.aload_n 0, 1) := by decide +kernel
theorem dJ1_charAt_3b067_7 : decode cJ1_charAt_3b067 7 = .ok (.iload_n 1, 1) := by decide +kernel
theorem dJ1_charAt_3b067_8 : decode cJ1_charAt_3b067 8 = .ok (.baload, 1) := by decide +kernel
theorem dJ1_charAt_3b067_9 : decode cJ1_charAt_3b067 9 = .ok (.sipush 255, 3) := by decide +kernel
theorem dJ1_charAt_3b067_12 : decode cJ1_charAt_3b067 12 = .ok (.iand, 1) := by decide +kernel
theorem dJ1_charAt_3b067_13 : decode cJ1_charAt_3b067 13 = .ok (.i2c, 1) := by decide +kernel
theorem dJ1_charAt_3b067_14 : decode cJ1_charAt_3b067 14 = .ok (.ireturn, 1) := by decide +kernel
theorem dJ1_canEncode_9a6ad_0 : decode cJ1_canEncode_9a6ad 0 = .ok (.iload_n 0, 1) := by decide +kernel
theorem dJ1_canEncode_9a6ad_1 : decode cJ1_canEncode_9a6ad 1 = .ok (.ifCond .lt 14, 3) := by decide +kernel
theorem dJ1_canEncode_9a6ad_4 : decode cJ1_canEncode_9a6ad 4 = .ok (.iload_n 0, 1) := by decide +kernel
theorem dJ1_canEncode_9a6ad_5 : decode cJ1_canEncode_9a6ad 5 = .ok (.sipush 255, 3) := by decide +kernel
theorem dJ1_canEncode_9a6ad_8 : decode cJ1_canEncode_9a6ad 8 = .ok (.if_icmp .gt 7, 3) := by decide +kernel
theorem dJ1_canEncode_9a6ad_11 : decode cJ1_canEncode_9a6ad 11 = .ok (.iconst 1, 1) := by decide +kernel
theorem dJ1_canEncode_9a6ad_12 : decode cJ1_canEncode_9a6ad 12 = .ok (.goto 4, 3) := by decide +kernel
theorem dJ1_canEncode_9a6ad_15 : decode cJ1_canEncode_9a6ad 15 = .ok (.iconst 0, 1) := by decide +kernel
theorem dJ1_canEncode_9a6ad_16 : decode cJ1_canEncode_9a6ad 16 = .ok (.ireturn, 1) := by decide +kernel
theorem dJ1_indexOf_4cfef_0 : decode cJ1_indexOf_4cfef 0 = .ok (.iload_n 1, 1) := by decide +kernel
theorem dJ1_indexOf_4cfef_1 : decode cJ1_indexOf_4cfef 1 = .ok (.invokestatic 88, 3) := by decide +kernel
theorem dJ1_indexOf_4cfef_4 : decode cJ1_indexOf_4cfef 4 = .ok (.ifCond .ne 5, 3) := by decide +kernel
theorem dJ1_indexOf_4cfef_7 : decode cJ1_indexOf_4cfef 7 = .ok (.iconst (-1), 1) := by decide +kernel
theorem dJ1_indexOf_4cfef_8 : decode cJ1_indexOf_4cfef 8 = .ok (.ireturn, 1) := by decide +kernel
theorem dJ1_indexOf_4cfef_9 : decode cJ1_indexOf_4cfef 9 = .ok (.iload_n 2, 1) := by decide +kernel
theorem dJ1_indexOf_4cfef_10 : decode cJ1_indexOf_4cfef 10 = .ok (.iconst 0, 1) := by decide +kernel
theorem dJ1_indexOf_4cfef_11 : decode cJ1_indexOf_4cfef 11 = .ok (.invokestatic 92, 3) := by decide +kernel
theorem dJ1_indexOf_4cfef_14 : decode cJ1_indexOf_4cfef 14 = .ok (.istore_n 2, 1) := by decide +kernel
theorem dJ1_indexOf_4cfef_15 : decode cJ1_indexOf_4cfef 15 = .ok (.iload_n 3, 1) := by decide +kernel
theorem dJ1_indexOf_4cfef_16 : decode cJ1_indexOf_4cfef 16 = .ok (.aload_n 0, 1) := by decide +kernel
theorem dJ1_indexOf_4cfef_17 : decode cJ1_indexOf_4cfef 17 = .ok (.arraylength, 1) := by decide +kernel
theorem dJ1_indexOf_4cfef_18 : decode cJ1_indexOf_4cfef 18 = .ok (.invokestatic 38, 3) := by decide +kernel
theorem dJ1_indexOf_4cfef_21 : decode cJ1_indexOf_4cfef 21 = .ok (.istore_n 3, 1) := by decide +kernel
theorem dJ1_indexOf_4cfef_22 : decode cJ1_indexOf_4cfef 22 = .ok (.iload_n 2, 1) := by decide +kernel
theorem dJ1_indexOf_4cfef_23 : decode cJ1_indexOf_4cfef 23 = .ok (.iload_n 3, 1) := by decide +kernel
theorem dJ1_indexOf_4cfef_24 : decode cJ1_indexOf_4cfef 24 = .ok (.if_icmp .lt 5, 3) := by decide +kernel
theorem dJ1_indexOf_4cfef_27 : decode cJ1_indexOf_4cfef 27 = .ok (.iconst (-1), 1) := by decide +kernel
theorem dJ1_indexOf_4cfef_28 : decode cJ1_indexOf_4cfef 28 = .ok (.ireturn, 1) := by decide +kernel
theorem dJ1_indexOf_4cfef_29 : decode cJ1_indexOf_4cfef 29 = .ok (.aload_n 0, 1) := by decide +kernel
theorem dJ1_indexOf_4cfef_30 : decode cJ1_indexOf_4cfef 30 = .ok (.iload_n 1, 1) := by decide +kernel
theorem dJ1_indexOf_4cfef_31 : decode cJ1_indexOf_4cfef 31 = .ok (.iload_n 2, 1) := by decide +kernel
theorem dJ1_indexOf_4cfef_32 : decode cJ1_indexOf_4cfef 32 = .ok (.iload_n 3, 1) := by decide +kernel
theorem dJ1_indexOf_4cfef_33 : decode cJ1_indexOf_4cfef 33 = .ok (.invokestatic 95, 3) := by decide +kernel
theorem dJ1_indexOf_4cfef_36 : decode cJ1_indexOf_4cfef 36 = .ok (.ireturn, 1) := by decide +kernel
theorem dJ1_indexOfChar_4cfef_0 : decode cJ1_indexOfChar_4cfef 0 = .ok (.iload_n 1, 1) := by decide +kernel
theorem dJ1_indexOfChar_4cfef_1 : decode cJ1_indexOfChar_4cfef 1 = .ok (.i2b, 1) := by decide +kernel
theorem dJ1_indexOfChar_4cfef_2 : decode cJ1_indexOfChar_4cfef 2 = .ok (.istore 4, 2) := by decide +kernel
theorem dJ1_indexOfChar_4cfef_4 : decode cJ1_indexOfChar_4cfef 4 = .ok (.iload_n 2, 1) := by decide +kernel
theorem dJ1_indexOfChar_4cfef_5 : decode cJ1_indexOfChar_4cfef 5 = .ok (.istore 5, 2) := by decide +kernel
theorem dJ1_indexOfChar_4cfef_7 : decode cJ1_indexOfChar_4cfef 7 = .ok (.iload 5, 2) := by decide +kernel
theorem dJ1_indexOfChar_4cfef_9 : decode cJ1_indexOfChar_4cfef 9 = .ok (.iload_n 3, 1) := by decide +kernel
theorem dJ1_indexOfChar_4cfef_10 : decode cJ1_indexOfChar_4cfef 10 = .ok (.if_icmp .ge 21, 3) := by decide +kernel
theorem dJ1_indexOfChar_4cfef_13 : decode cJ1_indexOfChar_4cfef 13 = .ok (.aload_n 0, 1) := by decide +kernel
theorem dJ1_indexOfChar_4cfef_14 : decode cJ1_indexOfChar_4cfef 14 = .ok (.iload 5, 2) := by decide +kernel
theorem dJ1_indexOfChar_4cfef_16 : decode cJ1_indexOfChar_4cfef 16 = .ok (.baload, 1) := by decide +kernel
theorem dJ1_indexOfChar_4cfef_17 : decode cJ1_indexOfChar_4cfef 17 = .ok (.iload 4, 2) := by decide +kernel
theorem dJ1_indexOfChar_4cfef_19 : decode cJ1_indexOfChar_4cfef 19 = .ok (.if_icmp .ne 6, 3) := by decide +kernel
theorem dJ1_indexOfChar_4cfef_22 : decode cJ1_indexOfChar_4cfef 22 = .ok (.iload 5, 2) := by decide +kernel
theorem dJ1_indexOfChar_4cfef_24 : decode cJ1_indexOfChar_4cfef 24 = .ok (.ireturn, 1) := by decide +kernel
theorem dJ1_indexOfChar_4cfef_25 : decode cJ1_indexOfChar_4cfef 25 = .ok (.iinc 5 1, 3) := by decide +kernel
theorem dJ1_indexOfChar_4cfef_28 : decode cJ1_indexOfChar_4cfef 28 = .ok (.goto (-21), 3) := by decide +kernel
theorem dJ1_indexOfChar_4cfef_31 : decode cJ1_indexOfChar_4cfef 31 = .ok (.iconst (-1), 1) := by decide +kernel
theorem dJ1_indexOfChar_4cfef_32 : decode cJ1_indexOfChar_4cfef 32 = .ok (.ireturn, 1) := by decide +kernel
theorem dJ2_getChar_3b067_0 : decode cJ2_getChar_3b067 0 = .ok (.getstatic 44, 3) := by decide +kernel
theorem dJ2_getChar_3b067_3 : decode cJ2_getChar_3b067 3 = .ok (.ifCond .ne 25, 3) := by decide +kernel
theorem dJ2_getChar_3b067_6 : decode cJ2_getChar_3b067 6 = .ok (.iload_n 1, 1) := by decide +kernel
theorem dJ2_getChar_3b067_7 : decode cJ2_getChar_3b067 7 = .ok (.ifCond .lt 11, 3) := by decide +kernel
theorem dJ2_getChar_3b067_10 : decode cJ2_getChar_3b067 10 = .ok (.iload_n 1, 1) := by decide +kernel
theorem dJ2_getChar_3b067_11 : decode cJ2_getChar_3b067 11 = .ok (.aload_n 0, 1) := by decide +kernel
theorem dJ2_getChar_3b067_12 : decode cJ2_getChar_3b067 12 = .ok (.invokestatic 48, 3) := by decide +kernel
theorem dJ2_getChar_3b067_15 : decode cJ2_getChar_3b067 15 = .ok (.if_icmp .lt 13, 3) := by decide +kernel
theorem dJ2_getChar_3b067_18 : decode cJ2_getChar_3b067 18 = .ok (.new 52, 3) := by decide +kernel
theorem dJ2_getChar_3b067_21 : decode cJ2_getChar_3b067 21 = .ok (.dup, 1) := by decide +kernel
theorem dJ2_getChar_3b067_22 : decode cJ2_getChar_3b067 22 = .ok (.ldc 54, 2) := by decide +kernel
theorem dJ2_getChar_3b067_24 : decode cJ2_getChar_3b067 24 = .ok (.invokespecial 56, 3) := by decide +kernel
theorem dJ2_getChar_3b067_27 : decode cJ2_getChar_3b067 27 = .ok (.athrow, 1) := by decide +kernel
theorem dJ2_getChar_3b067_28 : decode cJ2_getChar_3b067 28 = .ok (.iload_n 1, 1) := by decide +kernel
theorem dJ2_getChar_3b067_29 : decode cJ2_getChar_3b067 29 = .ok (.iconst 1, 1) := by decide +kernel
theorem dJ2_getChar_3b067_30 : decode cJ2_getChar_3b067 30 = .ok (.ishl, 1) := by decide +kernel
theorem dJ2_getChar_3b067_31 : decode cJ2_getChar_3b067 31 = .ok (.istore_n 1, 1) := by decide +kernel
theorem dJ2_getChar_3b067_32 : decode cJ2_getChar_3b067 32 = .ok (.aload_n 0, 1) := by decide +kernel
theorem dJ2_getChar_3b067_33 : decode cJ2_getChar_3b067 33 = .ok (.iload_n 1, 1) := by decide +kernel
theorem dJ2_getChar_3b067_34 : decode cJ2_getChar_3b067 34 = .ok (.iinc 1 1, 3) := by decide +kernel
theorem dJ2_getChar_3b067_37 : decode cJ2_getChar_3b067 37 = .ok (.baload, 1) := by decide +kernel
theorem dJ2_getChar_3b067_38 : decode cJ2_getChar_3b067 38 = .ok (.sipush 255, 3) := by decide +kernel
theorem dJ2_getChar_3b067_41 : decode cJ2_getChar_3b067 41 = .ok (.iand, 1) := by decide +kernel
theorem dJ2_getChar_3b067_42 : decode cJ2_getChar_3b067 42 = .ok (.getstatic 59, 3) := by decide +kernel
theorem dJ2_getChar_3b067_45 : decode cJ2_getChar_3b067 45 = .ok (.ishl, 1) := by decide +kernel
theorem dJ2_getChar_3b067_46 : decode cJ2_getChar_3b067 46 = .ok (.aload_n 0, 1) := by decide +kernel
theorem dJ2_getChar_3b067_47 : decode cJ2_getChar_3b067 47 = .ok (.iload_n 1, 1) := by decide +kernel
theorem dJ2_getChar_3b067_48 : decode cJ2_getChar_3b067 48 = .ok (.baload, 1) := by decide +kernel
theorem dJ2_getChar_3b067_49 : decode cJ2_getChar_3b067 49 = .ok (.sipush 255, 3) := by decide +kernel
theorem dJ2_getChar_3b067_52 : decode cJ2_getChar_3b067 52 = .ok (.iand, 1) := by decide +kernel
theorem dJ2_getChar_3b067_53 : decode cJ2_getChar_3b067 53 = .ok (.getstatic 63, 3) := by decide +kernel
theorem dJ2_getChar_3b067_56 : decode cJ2_getChar_3b067 56 = .ok (.ishl, 1) := by decide +kernel
theorem dJ2_getChar_3b067_57 : decode cJ2_getChar_3b067 57 = .ok (.ior, 1) := by decide +kernel
theorem dJ2_getChar_3b067_58 : decode cJ2_getChar_3b067 58 = .ok (.i2c, 1) := by decide +kernel
theorem dJ2_getChar_3b067_59 : decode cJ2_getChar_3b067 59 = .ok (.ireturn, 1) := by decide +kernel
theorem dJ2_length_9d52b_0 : decode cJ2_length_9d52b 0 = .ok (.aload_n 0, 1) := by decide +kernel
theorem dJ2_length_9d52b_1 : decode cJ2_length_9d52b 1 = .ok (.arraylength, 1) := by decide +kernel
theorem dJ2_length_9d52b_2 : decode cJ2_length_9d52b 2 = .ok (.iconst 1, 1) := by decide +kernel
theorem dJ2_length_9d52b_3 : decode cJ2_length_9d52b 3 = .ok (.ishr, 1) := by decide +kernel
theorem dJ2_length_9d52b_4 : decode cJ2_length_9d52b 4 = .ok (.ireturn, 1) := by decide +kernel
theorem dJ2_indexOf_4cfef_0 : decode cJ2_indexOf_4cfef 0 = .ok (.iload_n 2, 1) := by decide +kernel
theorem dJ2_indexOf_4cfef_1 : decode cJ2_indexOf_4cfef 1 = .ok (.iconst 0, 1) := by decide +kernel
theorem dJ2_indexOf_4cfef_2 : decode cJ2_indexOf_4cfef 2 = .ok (.invokestatic 224, 3) := by decide +kernel
theorem dJ2_indexOf_4cfef_5 : decode cJ2_indexOf_4cfef 5 = .ok (.istore_n 2, 1) := by decide +kernel
theorem dJ2_indexOf_4cfef_6 : decode cJ2_indexOf_4cfef 6 = .ok (.iload_n 3, 1) := by decide +kernel
theorem dJ2_indexOf_4cfef_7 : decode cJ2_indexOf_4cfef 7 = .ok (.aload_n 0, 1) := by decide +kernel
theorem dJ2_indexOf_4cfef_8 : decode cJ2_indexOf_4cfef 8 = .ok (.arraylength, 1) := by decide +kernel
theorem dJ2_indexOf_4cfef_9 : decode cJ2_indexOf_4cfef 9 = .ok (.iconst 1, 1) := by decide +kernel
theorem dJ2_indexOf_4cfef_10 : decode cJ2_indexOf_4cfef 10 = .ok (.ishr, 1) := by decide +kernel
theorem dJ2_indexOf_4cfef_11 : decode cJ2_indexOf_4cfef 11 = .ok (.invokestatic 183, 3) := by decide +kernel
theorem dJ2_indexOf_4cfef_14 : decode cJ2_indexOf_4cfef 14 = .ok (.istore_n 3, 1) := by decide +kernel
theorem dJ2_indexOf_4cfef_15 : decode cJ2_indexOf_4cfef 15 = .ok (.iload_n 2, 1) := by decide +kernel
theorem dJ2_indexOf_4cfef_16 : decode cJ2_indexOf_4cfef 16 = .ok (.iload_n 3, 1) := by decide +kernel
theorem dJ2_indexOf_4cfef_17 : decode cJ2_indexOf_4cfef 17 = .ok (.if_icmp .lt 5, 3) := by decide +kernel
theorem dJ2_indexOf_4cfef_20 : decode cJ2_indexOf_4cfef 20 = .ok (.iconst (-1), 1) := by decide +kernel
theorem dJ2_indexOf_4cfef_21 : decode cJ2_indexOf_4cfef 21 = .ok (.ireturn, 1) := by decide +kernel
theorem dJ2_indexOf_4cfef_22 : decode cJ2_indexOf_4cfef 22 = .ok (.iload_n 1, 1) := by decide +kernel
theorem dJ2_indexOf_4cfef_23 : decode cJ2_indexOf_4cfef 23 = .ok (.ldc 227, 2) := by decide +kernel
theorem dJ2_indexOf_4cfef_25 : decode cJ2_indexOf_4cfef 25 = .ok (.if_icmp .ge 11, 3) := by decide +kernel
theorem dJ2_indexOf_4cfef_28 : decode cJ2_indexOf_4cfef 28 = .ok (.aload_n 0, 1) := by decide +kernel
theorem dJ2_indexOf_4cfef_29 : decode cJ2_indexOf_4cfef 29 = .ok (.iload_n 1, 1) := by decide +kernel
theorem dJ2_indexOf_4cfef_30 : decode cJ2_indexOf_4cfef 30 = .ok (.iload_n 2, 1) := by decide +kernel
theorem dJ2_indexOf_4cfef_31 : decode cJ2_indexOf_4cfef 31 = .ok (.iload_n 3, 1) := by decide +kernel
theorem dJ2_indexOf_4cfef_32 : decode cJ2_indexOf_4cfef 32 = .ok (.invokestatic 228, 3) := by decide +kernel
theorem dJ2_indexOf_4cfef_35 : decode cJ2_indexOf_4cfef 35 = .ok (.ireturn, 1) := by decide +kernel
theorem dJ2_indexOf_4cfef_36 : decode cJ2_indexOf_4cfef 36 = .ok (.aload_n 0, 1) := by decide +kernel
theorem dJ2_indexOf_4cfef_37 : decode cJ2_indexOf_4cfef 37 = .ok (.iload_n 1, 1) := by decide +kernel
theorem dJ2_indexOf_4cfef_38 : decode cJ2_indexOf_4cfef 38 = .ok (.iload_n 2, 1) := by decide +kernel
theorem dJ2_indexOf_4cfef_39 : decode cJ2_indexOf_4cfef 39 = .ok (.iload_n 3, 1) := by decide +kernel
theorem dJ2_indexOf_4cfef_40 : decode cJ2_indexOf_4cfef 40 = .ok (.invokestatic 232, 3) := by decide +kernel
theorem dJ2_indexOf_4cfef_43 : decode cJ2_indexOf_4cfef 43 = .ok (.ireturn, 1) := by decide +kernel
theorem dJ2_indexOfChar_4cfef_0 : decode cJ2_indexOfChar_4cfef 0 = .ok (.iload_n 2, 1) := by decide +kernel
theorem dJ2_indexOfChar_4cfef_1 : decode cJ2_indexOfChar_4cfef 1 = .ok (.iload_n 3, 1) := by decide +kernel
theorem dJ2_indexOfChar_4cfef_2 : decode cJ2_indexOfChar_4cfef 2 = .ok (.aload_n 0, 1) := by decide +kernel
theorem dJ2_indexOfChar_4cfef_3 : decode cJ2_indexOfChar_4cfef 3 = .ok (.invokestatic 96, 3) := by decide +kernel
theorem dJ2_indexOfChar_4cfef_6 : decode cJ2_indexOfChar_4cfef 6 = .ok (.aload_n 0, 1) := by decide +kernel
theorem dJ2_indexOfChar_4cfef_7 : decode cJ2_indexOfChar_4cfef 7 = .ok (.iload_n 1, 1) := by decide +kernel
theorem dJ2_indexOfChar_4cfef_8 : decode cJ2_indexOfChar_4cfef 8 = .ok (.iload_n 2, 1) := by decide +kernel
theorem dJ2_indexOfChar_4cfef_9 : decode cJ2_indexOfChar_4cfef 9 = .ok (.iload_n 3, 1) := by decide +kernel
theorem dJ2_indexOfChar_4cfef_10 : decode cJ2_indexOfChar_4cfef 10 = .ok (.invokestatic 244, 3) := by decide +kernel
theorem dJ2_indexOfChar_4cfef_13 : decode cJ2_indexOfChar_4cfef 13 = .ok (.ireturn, 1) := by decide +kernel
theorem dJ2_indexOfCharUnsafe_4cfef_0 : decode cJ2_indexOfCharUnsafe_4cfef 0 = .ok (.iload_n 2, 1) := by decide +kernel
theorem dJ2_indexOfCharUnsafe_4cfef_1 : decode cJ2_indexOfCharUnsafe_4cfef 1 = .ok (.istore 4, 2) := by decide +kernel
theorem dJ2_indexOfCharUnsafe_4cfef_3 : decode cJ2_indexOfCharUnsafe_4cfef 3 = .ok (.iload 4, 2) := by decide +kernel
theorem dJ2_indexOfCharUnsafe_4cfef_5 : decode cJ2_indexOfCharUnsafe_4cfef 5 = .ok (.iload_n 3, 1) := by decide +kernel
theorem dJ2_indexOfCharUnsafe_4cfef_6 : decode cJ2_indexOfCharUnsafe_4cfef 6 = .ok (.if_icmp .ge 22, 3) := by decide +kernel
theorem dJ2_indexOfCharUnsafe_4cfef_9 : decode cJ2_indexOfCharUnsafe_4cfef 9 = .ok (.aload_n 0, 1) := by decide +kernel
theorem dJ2_indexOfCharUnsafe_4cfef_10 : decode cJ2_indexOfCharUnsafe_4cfef 10 = .ok (.iload 4, 2) := by decide +kernel
theorem dJ2_indexOfCharUnsafe_4cfef_12 : decode cJ2_indexOfCharUnsafe_4cfef 12 = .ok (.invokestatic 71, 3) := by decide +kernel
theorem dJ2_indexOfCharUnsafe_4cfef_15 : decode cJ2_indexOfCharUnsafe_4cfef 15 = .ok (.iload_n 1, 1) := by decide +kernel
theorem dJ2_indexOfCharUnsafe_4cfef_16 : decode cJ2_indexOfCharUnsafe_4cfef 16 = .ok (.if_icmp .ne 6, 3) := by decide +kernel
theorem dJ2_indexOfCharUnsafe_4cfef_19 : decode cJ2_indexOfCharUnsafe_4cfef 19 = .ok (.iload 4, 2) := by decide +kernel
theorem dJ2_indexOfCharUnsafe_4cfef_21 : decode cJ2_indexOfCharUnsafe_4cfef 21 = .ok (.ireturn, 1) := by decide +kernel
theorem dJ2_indexOfCharUnsafe_4cfef_22 : decode cJ2_indexOfCharUnsafe_4cfef 22 = .ok (.iinc 4 1, 3) := by decide +kernel
theorem dJ2_indexOfCharUnsafe_4cfef_25 : decode cJ2_indexOfCharUnsafe_4cfef 25 = .ok (.goto (-22), 3) := by decide +kernel
theorem dJ2_indexOfCharUnsafe_4cfef_28 : decode cJ2_indexOfCharUnsafe_4cfef 28 = .ok (.iconst (-1), 1) := by decide +kernel
theorem dJ2_indexOfCharUnsafe_4cfef_29 : decode cJ2_indexOfCharUnsafe_4cfef 29 = .ok (.ireturn, 1) := by decide +kernel
theorem dJ2_indexOfSupplementary_4cfef_0 : decode cJ2_indexOfSupplementary_4cfef 0 = .ok (.iload_n 1, 1) := by decide +kernel
theorem dJ2_indexOfSupplementary_4cfef_1 : decode cJ2_indexOfSupplementary_4cfef 1 = .ok (.invokestatic 164, 3) := by decide +kernel
theorem dJ2_indexOfSupplementary_4cfef_4 : decode cJ2_indexOfSupplementary_4cfef 4 = .ok (.ifCond .eq 65, 3) := by decide +kernel
theorem dJ2_indexOfSupplementary_4cfef_7 : decode cJ2_indexOfSupplementary_4cfef 7 = .ok (.iload_n 1, 1) := by decide +kernel
theorem dJ2_indexOfSupplementary_4cfef_8 : decode cJ2_indexOfSupplementary_4cfef 8 = .ok (.invokestatic 157, 3) := by decide +kernel
theorem dJ2_indexOfSupplementary_4cfef_11 : decode cJ2_indexOfSupplementary_4cfef 11 = .ok (.istore 4, 2) := by decide +kernel
theorem dJ2_indexOfSupplementary_4cfef_13 : decode cJ2_indexOfSupplementary_4cfef 13 = .ok (.iload_n 1, 1) := by decide +kernel
theorem dJ2_indexOfSupplementary_4cfef_14 : decode cJ2_indexOfSupplementary_4cfef 14 = .ok (.invokestatic 161, 3) := by decide +kernel
theorem dJ2_indexOfSupplementary_4cfef_17 : decode cJ2_indexOfSupplementary_4cfef 17 = .ok (.istore 5, 2) := by decide +kernel
theorem dJ2_indexOfSupplementary_4cfef_19 : decode cJ2_indexOfSupplementary_4cfef 19 = .ok (.iload_n 2, 1) := by decide +kernel
theorem dJ2_indexOfSupplementary_4cfef_20 : decode cJ2_indexOfSupplementary_4cfef 20 = .ok (.iload_n 3, 1) := by decide +kernel
theorem dJ2_indexOfSupplementary_4cfef_21 : decode cJ2_indexOfSupplementary_4cfef 21 = .ok (.aload_n 0, 1) := by decide +kernel
theorem dJ2_indexOfSupplementary_4cfef_22 : decode cJ2_indexOfSupplementary_4cfef 22 = .ok (.invokestatic 96, 3) := by decide +kernel
theorem dJ2_indexOfSupplementary_4cfef_25 : decode cJ2_indexOfSupplementary_4cfef 25 = .ok (.iload_n 2, 1) := by decide +kernel
theorem dJ2_indexOfSupplementary_4cfef_26 : decode cJ2_indexOfSupplementary_4cfef 26 = .ok (.istore 6, 2) := by decide +kernel
theorem dJ2_indexOfSupplementary_4cfef_28 : decode cJ2_indexOfSupplementary_4cfef 28 = .ok (.iload 6, 2) := by decide +kernel
theorem dJ2_indexOfSupplementary_4cfef_30 : decode cJ2_indexOfSupplementary_4cfef 30 = .ok (.iload_n 3, 1) := by decide +kernel
theorem dJ2_indexOfSupplementary_4cfef_31 : decode cJ2_indexOfSupplementary_4cfef 31 = .ok (.iconst 1, 1) := by decide +kernel
theorem dJ2_indexOfSupplementary_4cfef_32 : decode cJ2_indexOfSupplementary_4cfef 32 = .ok (.isub, 1) := by decide +kernel
theorem dJ2_indexOfSupplementary_4cfef_33 : decode cJ2_indexOfSupplementary_4cfef 33 = .ok (.if_icmp .ge 36, 3) := by decide +kernel
theorem dJ2_indexOfSupplementary_4cfef_36 : decode cJ2_indexOfSupplementary_4cfef 36 = .ok (.aload_n 0, 1) := by decide +kernel
theorem dJ2_indexOfSupplementary_4cfef_37 : decode cJ2_indexOfSupplementary_4cfef 37 = .ok (.iload 6, 2) := by decide +kernel
theorem dJ2_indexOfSupplementary_4cfef_39 : decode cJ2_indexOfSupplementary_4cfef 39 = .ok (.invokestatic 71, 3) := by decide +kernel
theorem dJ2_indexOfSupplementary_4cfef_42 : decode cJ2_indexOfSupplementary_4cfef 42 = .ok (.iload 4, 2) := by decide +kernel
theorem dJ2_indexOfSupplementary_4cfef_44 : decode cJ2_indexOfSupplementary_4cfef 44 = .ok (.if_icmp .ne 19, 3) := by decide +kernel
theorem dJ2_indexOfSupplementary_4cfef_47 : decode cJ2_indexOfSupplementary_4cfef 47 = .ok (.aload_n 0, 1) := by decide +kernel
theorem dJ2_indexOfSupplementary_4cfef_48 : decode cJ2_indexOfSupplementary_4cfef 48 = .ok (.iload 6, 2) := by decide +kernel
theorem dJ2_indexOfSupplementary_4cfef_50 : decode cJ2_indexOfSupplementary_4cfef 50 = .ok (.iconst 1, 1) := by decide +kernel
theorem dJ2_indexOfSupplementary_4cfef_51 : decode cJ2_indexOfSupplementary_4cfef 51 = .ok (.iadd, 1) := by decide +kernel
theorem dJ2_indexOfSupplementary_4cfef_52 : decode cJ2_indexOfSupplementary_4cfef 52 = .ok (.invokestatic 71, 3) := by decide +kernel
theorem dJ2_indexOfSupplementary_4cfef_55 : decode cJ2_indexOfSupplementary_4cfef 55 = .ok (.iload 5, 2) := by decide +kernel
theorem dJ2_indexOfSupplementary_4cfef_57 : decode cJ2_indexOfSupplementary_4cfef 57 = .ok (.if_icmp .ne 6, 3) := by decide +kernel
theorem dJ2_indexOfSupplementary_4cfef_60 : decode cJ2_indexOfSupplementary_4cfef 60 = .ok (.iload 6, 2) := by decide +kernel
theorem dJ2_indexOfSupplementary_4cfef_62 : decode cJ2_indexOfSupplementary_4cfef 62 = .ok (.ireturn, 1) := by decide +kernel
theorem dJ2_indexOfSupplementary_4cfef_63 : decode cJ2_indexOfSupplementary_4cfef 63 = .ok (.iinc 6 1, 3) := by decide +kernel
theorem dJ2_indexOfSupplementary_4cfef_66 : decode cJ2_indexOfSupplementary_4cfef 66 = .ok (.goto (-38), 3) := by decide +kernel
theorem dJ2_indexOfSupplementary_4cfef_69 : decode cJ2_indexOfSupplementary_4cfef 69 = .ok (.iconst (-1), 1) := by decide +kernel
theorem dJ2_indexOfSupplementary_4cfef_70 : decode cJ2_indexOfSupplementary_4cfef 70 = .ok (.ireturn, 1) := by decide +kernel
theorem dJ2_charAt_3b067_0 : decode cJ2_charAt_3b067 0 = .ok (.iload_n 1, 1) := by decide +kernel
theorem dJ2_charAt_3b067_1 : decode cJ2_charAt_3b067 1 = .ok (.aload_n 0, 1) := by decide +kernel
theorem dJ2_charAt_3b067_2 : decode cJ2_charAt_3b067 2 = .ok (.invokestatic 67, 3) := by decide +kernel
theorem dJ2_charAt_3b067_5 : decode cJ2_charAt_3b067 5 = .ok (.aload_n 0, 1) := by decide +kernel
theorem dJ2_charAt_3b067_6 : decode cJ2_charAt_3b067 6 = .ok (.iload_n 1, 1) := by decide +kernel
theorem dJ2_charAt_3b067_7 : decode cJ2_charAt_3b067 7 = .ok (.invokestatic 71, 3) := by decide +kernel
theorem dJ2_charAt_3b067_10 : decode cJ2_charAt_3b067 10 = .ok (.ireturn, 1) := by decide +kernel
theorem dJ2_checkIndex_2214a_0 : decode cJ2_checkIndex_2214a 0 = .ok (.iload_n 0, 1) := by decide +kernel
theorem dJ2_checkIndex_2214a_1 : decode cJ2_checkIndex_2214a 1 = .ok (.aload_n 1, 1) := by decide +kernel
theorem dJ2_checkIndex_2214a_2 : decode cJ2_checkIndex_2214a 2 = .ok (.invokestatic 48, 3) := by decide +kernel
theorem dJ2_checkIndex_2214a_5 : decode cJ2_checkIndex_2214a 5 = .ok (.invokestatic 414, 3) := by decide +kernel
theorem dJ2_checkIndex_2214a_8 : decode cJ2_checkIndex_2214a 8 = .ok (.return_, 1) := by decide +kernel
theorem dJ2_checkBoundsBeginEnd_d044e_0 : decode cJ2_checkBoundsBeginEnd_d044e 0 = .ok (.iload_n 0, 1) := by decide +kernel
theorem dJ2_checkBoundsBeginEnd_d044e_1 : decode cJ2_checkBoundsBeginEnd_d044e 1 = .ok (.iload_n 1, 1) := by decide +kernel
theorem dJ2_checkBoundsBeginEnd_d044e_2 : decode cJ2_checkBoundsBeginEnd_d044e 2 = .ok (.aload_n 2, 1) := by decide +kernel
theorem dJ2_checkBoundsBeginEnd_d044e_3 : decode cJ2_checkBoundsBeginEnd_d044e 3 = .ok (.invokestatic 48, 3) := by decide +kernel
theorem dJ2_checkBoundsBeginEnd_d044e_6 : decode cJ2_checkBoundsBeginEnd_d044e 6 = .ok (.invokestatic 241, 3) := by decide +kernel
theorem dJ2_checkBoundsBeginEnd_d044e_9 : decode cJ2_checkBoundsBeginEnd_d044e 9 = .ok (.return_, 1) := by decide +kernel
theorem dJ3_checkIndex_8e157_0 : decode cJ3_checkIndex_8e157 0 = .ok (.iload_n 0, 1) := by decide +kernel
theorem dJ3_checkIndex_8e157_1 : decode cJ3_checkIndex_8e157 1 = .ok (.ifCond .lt 8, 3) := by decide +kernel
theorem dJ3_checkIndex_8e157_4 : decode cJ3_checkIndex_8e157 4 = .ok (.iload_n 0, 1) := by decide +kernel
theorem dJ3_checkIndex_8e157_5 : decode cJ3_checkIndex_8e157 5 = .ok (.iload_n 1, 1) := by decide +kernel
theorem dJ3_checkIndex_8e157_6 : decode cJ3_checkIndex_8e157 6 = .ok (.if_icmp .lt 10, 3) := by decide +kernel
theorem dJ3_checkIndex_8e157_9 : decode cJ3_checkIndex_8e157 9 = .ok (.aload_n 2, 1) := by decide +kernel
theorem dJ3_checkIndex_8e157_10 : decode cJ3_checkIndex_8e157 10 = .ok (.iload_n 0, 1) := by decide +kernel
theorem dJ3_checkIndex_8e157_11 : decode cJ3_checkIndex_8e157 11 = .ok (.iload_n 1, 1) := by decide +kernel
theorem dJ3_checkIndex_8e157_12 : decode cJ3_checkIndex_8e157 12 = .ok (.invokestatic 95, 3) := by decide +kernel
theorem dJ3_checkIndex_8e157_15 : decode cJ3_checkIndex_8e157 15 = .ok (.athrow, 1) := by decide +kernel
theorem dJ3_checkIndex_8e157_16 : decode cJ3_checkIndex_8e157 16 = .ok (.iload_n 0, 1) := by decide +kernel
theorem dJ3_checkIndex_8e157_17 : decode cJ3_checkIndex_8e157 17 = .ok (.ireturn, 1) := by decide +kernel
theorem dJ3_checkFromToIndex_8c36e_0 : decode cJ3_checkFromToIndex_8c36e 0 = .ok (.iload_n 0, 1) := by decide +kernel
theorem dJ3_checkFromToIndex_8c36e_1 : decode cJ3_checkFromToIndex_8c36e 1 = .ok (.ifCond .lt 13, 3) := by decide +kernel
theorem dJ3_checkFromToIndex_8c36e_4 : decode cJ3_checkFromToIndex_8c36e 4 = .ok (.iload_n 0, 1) := by decide +kernel
theorem dJ3_checkFromToIndex_8c36e_5 : decode cJ3_checkFromToIndex_8c36e 5 = .ok (.iload_n 1, 1) := by decide +kernel
theorem dJ3_checkFromToIndex_8c36e_6 : decode cJ3_checkFromToIndex_8c36e 6 = .ok (.if_icmp .gt 8, 3) := by decide +kernel
theorem dJ3_checkFromToIndex_8c36e_9 : decode cJ3_checkFromToIndex_8c36e 9 = .ok (.iload_n 1, 1) := by decide +kernel
theorem dJ3_checkFromToIndex_8c36e_10 : decode cJ3_checkFromToIndex_8c36e 10 = .ok (.iload_n 2, 1) := by decide +kernel
theorem dJ3_checkFromToIndex_8c36e_11 : decode cJ3_checkFromToIndex_8c36e 11 = .ok (.if_icmp .le 11, 3) := by decide +kernel
theorem dJ3_checkFromToIndex_8c36e_14 : decode cJ3_checkFromToIndex_8c36e 14 = .ok (.aload_n 3, 1) := by decide +kernel
theorem dJ3_checkFromToIndex_8c36e_15 : decode cJ3_checkFromToIndex_8c36e 15 = .ok (.iload_n 0, 1) := by decide +kernel
theorem dJ3_checkFromToIndex_8c36e_16 : decode cJ3_checkFromToIndex_8c36e 16 = .ok (.iload_n 1, 1) := by decide +kernel
theorem dJ3_checkFromToIndex_8c36e_17 : decode cJ3_checkFromToIndex_8c36e 17 = .ok (.iload_n 2, 1) := by decide +kernel
theorem dJ3_checkFromToIndex_8c36e_18 : decode cJ3_checkFromToIndex_8c36e 18 = .ok (.invokestatic 99, 3) := by decide +kernel
theorem dJ3_checkFromToIndex_8c36e_21 : decode cJ3_checkFromToIndex_8c36e 21 = .ok (.athrow, 1) := by decide +kernel
theorem dJ3_checkFromToIndex_8c36e_22 : decode cJ3_checkFromToIndex_8c36e 22 = .ok (.iload_n 0, 1) := by decide +kernel
theorem dJ3_checkFromToIndex_8c36e_23 : decode cJ3_checkFromToIndex_8c36e 23 = .ok (.ireturn, 1) := by decide +kernel
theorem dL_coast_0 : decode cL_coast 0 = .ok (.aload_n 2, 1) := by decide +kernel
theorem dL_coast_1 : decode cL_coast 1 = .ok (.iconst 0, 1) := by decide +kernel
theorem dL_coast_2 : decode cL_coast 2 = .ok (.aload_n 0, 1) := by decide +kernel
theorem dL_coast_3 : decode cL_coast 3 = .ok (.iload_n 1, 1) := by decide +kernel
theorem dL_coast_4 : decode cL_coast 4 = .ok (.invokevirtual 7, 3) := by decide +kernel
theorem dL_coast_7 : decode cL_coast 7 = .ok (.i2l, 1) := by decide +kernel
theorem dL_coast_8 : decode cL_coast 8 = .ok (.lastore, 1) := by decide +kernel
theorem dL_coast_9 : decode cL_coast 9 = .ok (.goto 6, 3) := by decide +kernel
theorem dL_coast_12 : decode cL_coast 12 = .ok (.astore_n 3, 1) := by decide +kernel
theorem dL_coast_13 : decode cL_coast 13 = .ok (.iconst 1, 1) := by decide +kernel
theorem dL_coast_14 : decode cL_coast 14 = .ok (.ireturn, 1) := by decide +kernel
theorem dL_coast_15 : decode cL_coast 15 = .ok (.iconst 0, 1) := by decide +kernel
theorem dL_coast_16 : decode cL_coast 16 = .ok (.ireturn, 1) := by decide +kernel
theorem dL_count_0 : decode cL_count 0 = .ok (.aload_n 2, 1) := by decide +kernel
theorem dL_count_1 : decode cL_count 1 = .ok (.iconst 0, 1) := by decide +kernel
theorem dL_count_2 : decode cL_count 2 = .ok (.aload_n 0, 1) := by decide +kernel
theorem dL_count_3 : decode cL_count 3 = .ok (.iload_n 1, 1) := by decide +kernel
theorem dL_count_4 : decode cL_count 4 = .ok (.invokevirtual 15, 3) := by decide +kernel
theorem dL_count_7 : decode cL_count 7 = .ok (.i2l, 1) := by decide +kernel
theorem dL_count_8 : decode cL_count 8 = .ok (.lastore, 1) := by decide +kernel
theorem dL_count_9 : decode cL_count 9 = .ok (.goto 6, 3) := by decide +kernel
theorem dL_count_12 : decode cL_count 12 = .ok (.astore_n 3, 1) := by decide +kernel
theorem dL_count_13 : decode cL_count 13 = .ok (.iconst 1, 1) := by decide +kernel
theorem dL_count_14 : decode cL_count 14 = .ok (.ireturn, 1) := by decide +kernel
theorem dL_count_15 : decode cL_count 15 = .ok (.iconst 0, 1) := by decide +kernel
theorem dL_count_16 : decode cL_count 16 = .ok (.ireturn, 1) := by decide +kernel
theorem dL_light_0 : decode cL_light 0 = .ok (.aload_n 3, 1) := by decide +kernel
theorem dL_light_1 : decode cL_light 1 = .ok (.iconst 0, 1) := by decide +kernel
theorem dL_light_2 : decode cL_light 2 = .ok (.aload_n 0, 1) := by decide +kernel
theorem dL_light_3 : decode cL_light 3 = .ok (.iload_n 1, 1) := by decide +kernel
theorem dL_light_4 : decode cL_light 4 = .ok (.iload_n 2, 1) := by decide +kernel
theorem dL_light_5 : decode cL_light 5 = .ok (.invokevirtual 20, 3) := by decide +kernel
theorem dL_light_8 : decode cL_light 8 = .ok (.i2l, 1) := by decide +kernel
theorem dL_light_9 : decode cL_light 9 = .ok (.lastore, 1) := by decide +kernel
theorem dL_light_10 : decode cL_light 10 = .ok (.goto 7, 3) := by decide +kernel
theorem dL_light_13 : decode cL_light 13 = .ok (.astore 4, 2) := by decide +kernel
theorem dL_light_15 : decode cL_light 15 = .ok (.iconst 1, 1) := by decide +kernel
theorem dL_light_16 : decode cL_light 16 = .ok (.ireturn, 1) := by decide +kernel
theorem dL_light_17 : decode cL_light 17 = .ok (.iconst 0, 1) := by decide +kernel
theorem dL_light_18 : decode cL_light 18 = .ok (.ireturn, 1) := by decide +kernel
theorem dL_ship_0 : decode cL_ship 0 = .ok (.aload_n 3, 1) := by decide +kernel
theorem dL_ship_1 : decode cL_ship 1 = .ok (.iconst 0, 1) := by decide +kernel
theorem dL_ship_2 : decode cL_ship 2 = .ok (.aload_n 0, 1) := by decide +kernel
theorem dL_ship_3 : decode cL_ship 3 = .ok (.iload_n 1, 1) := by decide +kernel
theorem dL_ship_4 : decode cL_ship 4 = .ok (.iload_n 2, 1) := by decide +kernel
theorem dL_ship_5 : decode cL_ship 5 = .ok (.invokevirtual 24, 3) := by decide +kernel
theorem dL_ship_8 : decode cL_ship 8 = .ok (.i2l, 1) := by decide +kernel
theorem dL_ship_9 : decode cL_ship 9 = .ok (.lastore, 1) := by decide +kernel
theorem dL_ship_10 : decode cL_ship 10 = .ok (.goto 7, 3) := by decide +kernel
theorem dL_ship_13 : decode cL_ship 13 = .ok (.astore 4, 2) := by decide +kernel
theorem dL_ship_15 : decode cL_ship 15 = .ok (.iconst 1, 1) := by decide +kernel
theorem dL_ship_16 : decode cL_ship 16 = .ok (.ireturn, 1) := by decide +kernel
theorem dL_ship_17 : decode cL_ship 17 = .ok (.iconst 0, 1) := by decide +kernel
theorem dL_ship_18 : decode cL_ship 18 = .ok (.ireturn, 1) := by decide +kernel
theorem dL_where_0 : decode cL_where 0 = .ok (.aload_n 3, 1) := by decide +kernel
theorem dL_where_1 : decode cL_where 1 = .ok (.iconst 0, 1) := by decide +kernel
theorem dL_where_2 : decode cL_where 2 = .ok (.aload_n 0, 1) := by decide +kernel
theorem dL_where_3 : decode cL_where 3 = .ok (.iload_n 1, 1) := by decide +kernel
theorem dL_where_4 : decode cL_where 4 = .ok (.iload_n 2, 1) := by decide +kernel
theorem dL_where_5 : decode cL_where 5 = .ok (.invokevirtual 27, 3) := by decide +kernel
theorem dL_where_8 : decode cL_where 8 = .ok (.i2l, 1) := by decide +kernel
theorem dL_where_9 : decode cL_where 9 = .ok (.lastore, 1) := by decide +kernel
theorem dL_where_10 : decode cL_where 10 = .ok (.goto 7, 3) := by decide +kernel
theorem dL_where_13 : decode cL_where 13 = .ok (.astore 4, 2) := by decide +kernel
theorem dL_where_15 : decode cL_where 15 = .ok (.iconst 1, 1) := by decide +kernel
theorem dL_where_16 : decode cL_where 16 = .ok (.ireturn, 1) := by decide +kernel
theorem dL_where_17 : decode cL_where 17 = .ok (.iconst 0, 1) := by decide +kernel
theorem dL_where_18 : decode cL_where 18 = .ok (.ireturn, 1) := by decide +kernel
theorem dL_lamp_0 : decode cL_lamp 0 = .ok (.aload 4, 2) := by decide +kernel
theorem dL_lamp_2 : decode cL_lamp 2 = .ok (.iconst 0, 1) := by decide +kernel
theorem dL_lamp_3 : decode cL_lamp 3 = .ok (.aload_n 0, 1) := by decide +kernel
theorem dL_lamp_4 : decode cL_lamp 4 = .ok (.iload_n 1, 1) := by decide +kernel
theorem dL_lamp_5 : decode cL_lamp 5 = .ok (.iload_n 2, 1) := by decide +kernel
theorem dL_lamp_6 : decode cL_lamp 6 = .ok (.iload_n 3, 1) := by decide +kernel
theorem dL_lamp_7 : decode cL_lamp 7 = .ok (.invokevirtual 30, 3) := by decide +kernel
theorem dL_lamp_10 : decode cL_lamp 10 = .ok (.i2l, 1) := by decide +kernel
theorem dL_lamp_11 : decode cL_lamp 11 = .ok (.lastore, 1) := by decide +kernel
theorem dL_lamp_12 : decode cL_lamp 12 = .ok (.goto 7, 3) := by decide +kernel
theorem dL_lamp_15 : decode cL_lamp 15 = .ok (.astore 5, 2) := by decide +kernel
theorem dL_lamp_17 : decode cL_lamp 17 = .ok (.iconst 1, 1) := by decide +kernel
theorem dL_lamp_18 : decode cL_lamp 18 = .ok (.ireturn, 1) := by decide +kernel
theorem dL_lamp_19 : decode cL_lamp 19 = .ok (.iconst 0, 1) := by decide +kernel
theorem dL_lamp_20 : decode cL_lamp 20 = .ok (.ireturn, 1) := by decide +kernel
theorem dL_seen_0 : decode cL_seen 0 = .ok (.aload_n 3, 1) := by decide +kernel
theorem dL_seen_1 : decode cL_seen 1 = .ok (.iconst 0, 1) := by decide +kernel
theorem dL_seen_2 : decode cL_seen 2 = .ok (.aload_n 0, 1) := by decide +kernel
theorem dL_seen_3 : decode cL_seen 3 = .ok (.iload_n 1, 1) := by decide +kernel
theorem dL_seen_4 : decode cL_seen 4 = .ok (.iload_n 2, 1) := by decide +kernel
theorem dL_seen_5 : decode cL_seen 5 = .ok (.invokevirtual 34, 3) := by decide +kernel
theorem dL_seen_8 : decode cL_seen 8 = .ok (.i2l, 1) := by decide +kernel
theorem dL_seen_9 : decode cL_seen 9 = .ok (.lastore, 1) := by decide +kernel
theorem dL_seen_10 : decode cL_seen 10 = .ok (.goto 7, 3) := by decide +kernel
theorem dL_seen_13 : decode cL_seen 13 = .ok (.astore 4, 2) := by decide +kernel
theorem dL_seen_15 : decode cL_seen 15 = .ok (.iconst 1, 1) := by decide +kernel
theorem dL_seen_16 : decode cL_seen 16 = .ok (.ireturn, 1) := by decide +kernel
theorem dL_seen_17 : decode cL_seen 17 = .ok (.iconst 0, 1) := by decide +kernel
theorem dL_seen_18 : decode cL_seen 18 = .ok (.ireturn, 1) := by decide +kernel
theorem dL_watch_0 : decode cL_watch 0 = .ok (.aload_n 3, 1) := by decide +kernel
theorem dL_watch_1 : decode cL_watch 1 = .ok (.iconst 0, 1) := by decide +kernel
theorem dL_watch_2 : decode cL_watch 2 = .ok (.aload_n 0, 1) := by decide +kernel
theorem dL_watch_3 : decode cL_watch 3 = .ok (.iload_n 1, 1) := by decide +kernel
theorem dL_watch_4 : decode cL_watch 4 = .ok (.iload_n 2, 1) := by decide +kernel
theorem dL_watch_5 : decode cL_watch 5 = .ok (.invokevirtual 37, 3) := by decide +kernel
theorem dL_watch_8 : decode cL_watch 8 = .ok (.i2l, 1) := by decide +kernel
theorem dL_watch_9 : decode cL_watch 9 = .ok (.lastore, 1) := by decide +kernel
theorem dL_watch_10 : decode cL_watch 10 = .ok (.goto 7, 3) := by decide +kernel
theorem dL_watch_13 : decode cL_watch 13 = .ok (.astore 4, 2) := by decide +kernel
theorem dL_watch_15 : decode cL_watch 15 = .ok (.iconst 1, 1) := by decide +kernel
theorem dL_watch_16 : decode cL_watch 16 = .ok (.ireturn, 1) := by decide +kernel
theorem dL_watch_17 : decode cL_watch 17 = .ok (.iconst 0, 1) := by decide +kernel
theorem dL_watch_18 : decode cL_watch 18 = .ok (.ireturn, 1) := by decide +kernel
theorem dL_content_0 : decode cL_content 0 = .ok (.aload_n 2, 1) := by decide +kernel
theorem dL_content_1 : decode cL_content 1 = .ok (.iconst 0, 1) := by decide +kernel
theorem dL_content_2 : decode cL_content 2 = .ok (.aload_n 0, 1) := by decide +kernel
theorem dL_content_3 : decode cL_content 3 = .ok (.iload_n 1, 1) := by decide +kernel
theorem dL_content_4 : decode cL_content 4 = .ok (.invokevirtual 40, 3) := by decide +kernel
theorem dL_content_7 : decode cL_content 7 = .ok (.i2l, 1) := by decide +kernel
theorem dL_content_8 : decode cL_content 8 = .ok (.lastore, 1) := by decide +kernel
theorem dL_content_9 : decode cL_content 9 = .ok (.goto 6, 3) := by decide +kernel
theorem dL_content_12 : decode cL_content 12 = .ok (.astore_n 3, 1) := by decide +kernel
theorem dL_content_13 : decode cL_content 13 = .ok (.iconst 1, 1) := by decide +kernel
theorem dL_content_14 : decode cL_content 14 = .ok (.ireturn, 1) := by decide +kernel
theorem dL_content_15 : decode cL_content 15 = .ok (.iconst 0, 1) := by decide +kernel
theorem dL_content_16 : decode cL_content 16 = .ok (.ireturn, 1) := by decide +kernel
theorem dL_met_0 : decode cL_met 0 = .ok (.aload_n 3, 1) := by decide +kernel
theorem dL_met_1 : decode cL_met 1 = .ok (.iconst 0, 1) := by decide +kernel
theorem dL_met_2 : decode cL_met 2 = .ok (.aload_n 0, 1) := by decide +kernel
theorem dL_met_3 : decode cL_met 3 = .ok (.iload_n 1, 1) := by decide +kernel
theorem dL_met_4 : decode cL_met 4 = .ok (.iload_n 2, 1) := by decide +kernel
theorem dL_met_5 : decode cL_met 5 = .ok (.invokevirtual 43, 3) := by decide +kernel
theorem dL_met_8 : decode cL_met 8 = .ok (.i2l, 1) := by decide +kernel
theorem dL_met_9 : decode cL_met 9 = .ok (.lastore, 1) := by decide +kernel
theorem dL_met_10 : decode cL_met 10 = .ok (.goto 11, 3) := by decide +kernel
theorem dL_met_13 : decode cL_met 13 = .ok (.astore 4, 2) := by decide +kernel
theorem dL_met_15 : decode cL_met 15 = .ok (.iconst 1, 1) := by decide +kernel
theorem dL_met_16 : decode cL_met 16 = .ok (.ireturn, 1) := by decide +kernel
theorem dL_met_17 : decode cL_met 17 = .ok (.astore 4, 2) := by decide +kernel
theorem dL_met_19 : decode cL_met 19 = .ok (.iconst 2, 1) := by decide +kernel
theorem dL_met_20 : decode cL_met 20 = .ok (.ireturn, 1) := by decide +kernel
theorem dL_met_21 : decode cL_met 21 = .ok (.iconst 0, 1) := by decide +kernel
theorem dL_met_22 : decode cL_met 22 = .ok (.ireturn, 1) := by decide +kernel
theorem dL_fill_0 : decode cL_fill 0 = .ok (.aload_n 3, 1) := by decide +kernel
theorem dL_fill_1 : decode cL_fill 1 = .ok (.iconst 0, 1) := by decide +kernel
theorem dL_fill_2 : decode cL_fill 2 = .ok (.aload_n 0, 1) := by decide +kernel
theorem dL_fill_3 : decode cL_fill 3 = .ok (.iload_n 1, 1) := by decide +kernel
theorem dL_fill_4 : decode cL_fill 4 = .ok (.iload_n 2, 1) := by decide +kernel
theorem dL_fill_5 : decode cL_fill 5 = .ok (.invokevirtual 46, 3) := by decide +kernel
theorem dL_fill_8 : decode cL_fill 8 = .ok (.i2l, 1) := by decide +kernel
theorem dL_fill_9 : decode cL_fill 9 = .ok (.lastore, 1) := by decide +kernel
theorem dL_fill_10 : decode cL_fill 10 = .ok (.goto 7, 3) := by decide +kernel
theorem dL_fill_13 : decode cL_fill 13 = .ok (.astore 4, 2) := by decide +kernel
theorem dL_fill_15 : decode cL_fill 15 = .ok (.iconst 1, 1) := by decide +kernel
theorem dL_fill_16 : decode cL_fill 16 = .ok (.ireturn, 1) := by decide +kernel
theorem dL_fill_17 : decode cL_fill 17 = .ok (.iconst 0, 1) := by decide +kernel
theorem dL_fill_18 : decode cL_fill 18 = .ok (.ireturn, 1) := by decide +kernel
theorem dL_moor_0 : decode cL_moor 0 = .ok (.aload_n 3, 1) := by decide +kernel
theorem dL_moor_1 : decode cL_moor 1 = .ok (.iconst 0, 1) := by decide +kernel
theorem dL_moor_2 : decode cL_moor 2 = .ok (.aload_n 0, 1) := by decide +kernel
theorem dL_moor_3 : decode cL_moor 3 = .ok (.iload_n 1, 1) := by decide +kernel
theorem dL_moor_4 : decode cL_moor 4 = .ok (.iload_n 2, 1) := by decide +kernel
theorem dL_moor_5 : decode cL_moor 5 = .ok (.invokevirtual 49, 3) := by decide +kernel
theorem dL_moor_8 : decode cL_moor 8 = .ok (.i2l, 1) := by decide +kernel
theorem dL_moor_9 : decode cL_moor 9 = .ok (.lastore, 1) := by decide +kernel
theorem dL_moor_10 : decode cL_moor 10 = .ok (.goto 7, 3) := by decide +kernel
theorem dL_moor_13 : decode cL_moor 13 = .ok (.astore 4, 2) := by decide +kernel
theorem dL_moor_15 : decode cL_moor 15 = .ok (.iconst 1, 1) := by decide +kernel
theorem dL_moor_16 : decode cL_moor 16 = .ok (.ireturn, 1) := by decide +kernel
theorem dL_moor_17 : decode cL_moor 17 = .ok (.iconst 0, 1) := by decide +kernel
theorem dL_moor_18 : decode cL_moor 18 = .ok (.ireturn, 1) := by decide +kernel
theorem dL_push_0 : decode cL_push 0 = .ok (.aload_n 3, 1) := by decide +kernel
theorem dL_push_1 : decode cL_push 1 = .ok (.iconst 0, 1) := by decide +kernel
theorem dL_push_2 : decode cL_push 2 = .ok (.aload_n 0, 1) := by decide +kernel
theorem dL_push_3 : decode cL_push 3 = .ok (.iload_n 1, 1) := by decide +kernel
theorem dL_push_4 : decode cL_push 4 = .ok (.iload_n 2, 1) := by decide +kernel
theorem dL_push_5 : decode cL_push 5 = .ok (.invokevirtual 52, 3) := by decide +kernel
theorem dL_push_8 : decode cL_push 8 = .ok (.i2l, 1) := by decide +kernel
theorem dL_push_9 : decode cL_push 9 = .ok (.lastore, 1) := by decide +kernel
theorem dL_push_10 : decode cL_push 10 = .ok (.goto 7, 3) := by decide +kernel
theorem dL_push_13 : decode cL_push 13 = .ok (.astore 4, 2) := by decide +kernel
theorem dL_push_15 : decode cL_push 15 = .ok (.iconst 1, 1) := by decide +kernel
theorem dL_push_16 : decode cL_push 16 = .ok (.ireturn, 1) := by decide +kernel
theorem dL_push_17 : decode cL_push 17 = .ok (.iconst 0, 1) := by decide +kernel
theorem dL_push_18 : decode cL_push 18 = .ok (.ireturn, 1) := by decide +kernel
theorem dL_want_0 : decode cL_want 0 = .ok (.aload_n 3, 1) := by decide +kernel
theorem dL_want_1 : decode cL_want 1 = .ok (.iconst 0, 1) := by decide +kernel
theorem dL_want_2 : decode cL_want 2 = .ok (.aload_n 0, 1) := by decide +kernel
theorem dL_want_3 : decode cL_want 3 = .ok (.iload_n 1, 1) := by decide +kernel
theorem dL_want_4 : decode cL_want 4 = .ok (.iload_n 2, 1) := by decide +kernel
theorem dL_want_5 : decode cL_want 5 = .ok (.invokevirtual 55, 3) := by decide +kernel
theorem dL_want_8 : decode cL_want 8 = .ok (.i2l, 1) := by decide +kernel
theorem dL_want_9 : decode cL_want 9 = .ok (.lastore, 1) := by decide +kernel
theorem dL_want_10 : decode cL_want 10 = .ok (.goto 7, 3) := by decide +kernel
theorem dL_want_13 : decode cL_want 13 = .ok (.astore 4, 2) := by decide +kernel
theorem dL_want_15 : decode cL_want 15 = .ok (.iconst 1, 1) := by decide +kernel
theorem dL_want_16 : decode cL_want 16 = .ok (.ireturn, 1) := by decide +kernel
theorem dL_want_17 : decode cL_want 17 = .ok (.iconst 0, 1) := by decide +kernel
theorem dL_want_18 : decode cL_want 18 = .ok (.ireturn, 1) := by decide +kernel
theorem dL_lamps_0 : decode cL_lamps 0 = .ok (.aload_n 2, 1) := by decide +kernel
theorem dL_lamps_1 : decode cL_lamps 1 = .ok (.iconst 0, 1) := by decide +kernel
theorem dL_lamps_2 : decode cL_lamps 2 = .ok (.aload_n 0, 1) := by decide +kernel
theorem dL_lamps_3 : decode cL_lamps 3 = .ok (.iload_n 1, 1) := by decide +kernel
theorem dL_lamps_4 : decode cL_lamps 4 = .ok (.invokevirtual 58, 3) := by decide +kernel
theorem dL_lamps_7 : decode cL_lamps 7 = .ok (.i2l, 1) := by decide +kernel
theorem dL_lamps_8 : decode cL_lamps 8 = .ok (.lastore, 1) := by decide +kernel
theorem dL_lamps_9 : decode cL_lamps 9 = .ok (.goto 6, 3) := by decide +kernel
theorem dL_lamps_12 : decode cL_lamps 12 = .ok (.astore_n 3, 1) := by decide +kernel
theorem dL_lamps_13 : decode cL_lamps 13 = .ok (.iconst 1, 1) := by decide +kernel
theorem dL_lamps_14 : decode cL_lamps 14 = .ok (.ireturn, 1) := by decide +kernel
theorem dL_lamps_15 : decode cL_lamps 15 = .ok (.iconst 0, 1) := by decide +kernel
theorem dL_lamps_16 : decode cL_lamps 16 = .ok (.ireturn, 1) := by decide +kernel
theorem dL_signs_0 : decode cL_signs 0 = .ok (.aload_n 3, 1) := by decide +kernel
theorem dL_signs_1 : decode cL_signs 1 = .ok (.iconst 0, 1) := by decide +kernel
theorem dL_signs_2 : decode cL_signs 2 = .ok (.aload_n 0, 1) := by decide +kernel
theorem dL_signs_3 : decode cL_signs 3 = .ok (.iload_n 1, 1) := by decide +kernel
theorem dL_signs_4 : decode cL_signs 4 = .ok (.iload_n 2, 1) := by decide +kernel
theorem dL_signs_5 : decode cL_signs 5 = .ok (.invokevirtual 61, 3) := by decide +kernel
theorem dL_signs_8 : decode cL_signs 8 = .ok (.i2l, 1) := by decide +kernel
theorem dL_signs_9 : decode cL_signs 9 = .ok (.lastore, 1) := by decide +kernel
theorem dL_signs_10 : decode cL_signs 10 = .ok (.goto 7, 3) := by decide +kernel
theorem dL_signs_13 : decode cL_signs 13 = .ok (.astore 4, 2) := by decide +kernel
theorem dL_signs_15 : decode cL_signs 15 = .ok (.iconst 1, 1) := by decide +kernel
theorem dL_signs_16 : decode cL_signs 16 = .ok (.ireturn, 1) := by decide +kernel
theorem dL_signs_17 : decode cL_signs 17 = .ok (.iconst 0, 1) := by decide +kernel
theorem dL_signs_18 : decode cL_signs 18 = .ok (.ireturn, 1) := by decide +kernel
theorem dL_who_0 : decode cL_who 0 = .ok (.aload_n 3, 1) := by decide +kernel
theorem dL_who_1 : decode cL_who 1 = .ok (.iconst 0, 1) := by decide +kernel
theorem dL_who_2 : decode cL_who 2 = .ok (.aload_n 0, 1) := by decide +kernel
theorem dL_who_3 : decode cL_who 3 = .ok (.iload_n 1, 1) := by decide +kernel
theorem dL_who_4 : decode cL_who 4 = .ok (.iload_n 2, 1) := by decide +kernel
theorem dL_who_5 : decode cL_who 5 = .ok (.invokevirtual 64, 3) := by decide +kernel
theorem dL_who_8 : decode cL_who 8 = .ok (.i2l, 1) := by decide +kernel
theorem dL_who_9 : decode cL_who 9 = .ok (.lastore, 1) := by decide +kernel
theorem dL_who_10 : decode cL_who 10 = .ok (.goto 7, 3) := by decide +kernel
theorem dL_who_13 : decode cL_who 13 = .ok (.astore 4, 2) := by decide +kernel
theorem dL_who_15 : decode cL_who 15 = .ok (.iconst 1, 1) := by decide +kernel
theorem dL_who_16 : decode cL_who 16 = .ok (.ireturn, 1) := by decide +kernel
theorem dL_who_17 : decode cL_who 17 = .ok (.iconst 0, 1) := by decide +kernel
theorem dL_who_18 : decode cL_who 18 = .ok (.ireturn, 1) := by decide +kernel
theorem dL_visits_0 : decode cL_visits 0 = .ok (.aload_n 2, 1) := by decide +kernel
theorem dL_visits_1 : decode cL_visits 1 = .ok (.iconst 0, 1) := by decide +kernel
theorem dL_visits_2 : decode cL_visits 2 = .ok (.aload_n 0, 1) := by decide +kernel
theorem dL_visits_3 : decode cL_visits 3 = .ok (.iload_n 1, 1) := by decide +kernel
theorem dL_visits_4 : decode cL_visits 4 = .ok (.invokevirtual 67, 3) := by decide +kernel
theorem dL_visits_7 : decode cL_visits 7 = .ok (.i2l, 1) := by decide +kernel
theorem dL_visits_8 : decode cL_visits 8 = .ok (.lastore, 1) := by decide +kernel
theorem dL_visits_9 : decode cL_visits 9 = .ok (.goto 6, 3) := by decide +kernel
theorem dL_visits_12 : decode cL_visits 12 = .ok (.astore_n 3, 1) := by decide +kernel
theorem dL_visits_13 : decode cL_visits 13 = .ok (.iconst 1, 1) := by decide +kernel
theorem dL_visits_14 : decode cL_visits 14 = .ok (.ireturn, 1) := by decide +kernel
theorem dL_visits_15 : decode cL_visits 15 = .ok (.iconst 0, 1) := by decide +kernel
theorem dL_visits_16 : decode cL_visits 16 = .ok (.ireturn, 1) := by decide +kernel
theorem dL_visit_0 : decode cL_visit 0 = .ok (.aload_n 3, 1) := by decide +kernel
theorem dL_visit_1 : decode cL_visit 1 = .ok (.iconst 0, 1) := by decide +kernel
theorem dL_visit_2 : decode cL_visit 2 = .ok (.aload_n 0, 1) := by decide +kernel
theorem dL_visit_3 : decode cL_visit 3 = .ok (.iload_n 1, 1) := by decide +kernel
theorem dL_visit_4 : decode cL_visit 4 = .ok (.iload_n 2, 1) := by decide +kernel
theorem dL_visit_5 : decode cL_visit 5 = .ok (.invokevirtual 70, 3) := by decide +kernel
theorem dL_visit_8 : decode cL_visit 8 = .ok (.i2l, 1) := by decide +kernel
theorem dL_visit_9 : decode cL_visit 9 = .ok (.lastore, 1) := by decide +kernel
theorem dL_visit_10 : decode cL_visit 10 = .ok (.goto 7, 3) := by decide +kernel
theorem dL_visit_13 : decode cL_visit 13 = .ok (.astore 4, 2) := by decide +kernel
theorem dL_visit_15 : decode cL_visit 15 = .ok (.iconst 1, 1) := by decide +kernel
theorem dL_visit_16 : decode cL_visit 16 = .ok (.ireturn, 1) := by decide +kernel
theorem dL_visit_17 : decode cL_visit 17 = .ok (.iconst 0, 1) := by decide +kernel
theorem dL_visit_18 : decode cL_visit 18 = .ok (.ireturn, 1) := by decide +kernel
theorem dL_compared_0 : decode cL_compared 0 = .ok (.aload_n 2, 1) := by decide +kernel
theorem dL_compared_1 : decode cL_compared 1 = .ok (.iconst 0, 1) := by decide +kernel
theorem dL_compared_2 : decode cL_compared 2 = .ok (.aload_n 0, 1) := by decide +kernel
theorem dL_compared_3 : decode cL_compared 3 = .ok (.iload_n 1, 1) := by decide +kernel
theorem dL_compared_4 : decode cL_compared 4 = .ok (.invokevirtual 73, 3) := by decide +kernel
theorem dL_compared_7 : decode cL_compared 7 = .ok (.i2l, 1) := by decide +kernel
theorem dL_compared_8 : decode cL_compared 8 = .ok (.lastore, 1) := by decide +kernel
theorem dL_compared_9 : decode cL_compared 9 = .ok (.goto 6, 3) := by decide +kernel
theorem dL_compared_12 : decode cL_compared 12 = .ok (.astore_n 3, 1) := by decide +kernel
theorem dL_compared_13 : decode cL_compared 13 = .ok (.iconst 1, 1) := by decide +kernel
theorem dL_compared_14 : decode cL_compared 14 = .ok (.ireturn, 1) := by decide +kernel
theorem dL_compared_15 : decode cL_compared 15 = .ok (.iconst 0, 1) := by decide +kernel
theorem dL_compared_16 : decode cL_compared 16 = .ok (.ireturn, 1) := by decide +kernel
theorem dL_mooring_0 : decode cL_mooring 0 = .ok (.aload 4, 2) := by decide +kernel
theorem dL_mooring_2 : decode cL_mooring 2 = .ok (.iconst 0, 1) := by decide +kernel
theorem dL_mooring_3 : decode cL_mooring 3 = .ok (.aload_n 0, 1) := by decide +kernel
theorem dL_mooring_4 : decode cL_mooring 4 = .ok (.iload_n 1, 1) := by decide +kernel
theorem dL_mooring_5 : decode cL_mooring 5 = .ok (.iload_n 2, 1) := by decide +kernel
theorem dL_mooring_6 : decode cL_mooring 6 = .ok (.iload_n 3, 1) := by decide +kernel
theorem dL_mooring_7 : decode cL_mooring 7 = .ok (.invokevirtual 76, 3) := by decide +kernel
theorem dL_mooring_10 : decode cL_mooring 10 = .ok (.i2l, 1) := by decide +kernel
theorem dL_mooring_11 : decode cL_mooring 11 = .ok (.lastore, 1) := by decide +kernel
theorem dL_mooring_12 : decode cL_mooring 12 = .ok (.goto 7, 3) := by decide +kernel
theorem dL_mooring_15 : decode cL_mooring 15 = .ok (.astore 5, 2) := by decide +kernel
theorem dL_mooring_17 : decode cL_mooring 17 = .ok (.iconst 1, 1) := by decide +kernel
theorem dL_mooring_18 : decode cL_mooring 18 = .ok (.ireturn, 1) := by decide +kernel
theorem dL_mooring_19 : decode cL_mooring 19 = .ok (.iconst 0, 1) := by decide +kernel
theorem dL_mooring_20 : decode cL_mooring 20 = .ok (.ireturn, 1) := by decide +kernel
theorem dL_log_0 : decode cL_log 0 = .ok (.aload 5, 2) := by decide +kernel
theorem dL_log_2 : decode cL_log 2 = .ok (.iconst 0, 1) := by decide +kernel
theorem dL_log_3 : decode cL_log 3 = .ok (.aload_n 0, 1) := by decide +kernel
theorem dL_log_4 : decode cL_log 4 = .ok (.iload_n 1, 1) := by decide +kernel
theorem dL_log_5 : decode cL_log 5 = .ok (.iload_n 2, 1) := by decide +kernel
theorem dL_log_6 : decode cL_log 6 = .ok (.iload_n 3, 1) := by decide +kernel
theorem dL_log_7 : decode cL_log 7 = .ok (.iload 4, 2) := by decide +kernel
theorem dL_log_9 : decode cL_log 9 = .ok (.invokevirtual 79, 3) := by decide +kernel
theorem dL_log_12 : decode cL_log 12 = .ok (.i2l, 1) := by decide +kernel
theorem dL_log_13 : decode cL_log 13 = .ok (.lastore, 1) := by decide +kernel
theorem dL_log_14 : decode cL_log 14 = .ok (.goto 7, 3) := by decide +kernel
theorem dL_log_17 : decode cL_log 17 = .ok (.astore 6, 2) := by decide +kernel
theorem dL_log_19 : decode cL_log 19 = .ok (.iconst 1, 1) := by decide +kernel
theorem dL_log_20 : decode cL_log 20 = .ok (.ireturn, 1) := by decide +kernel
theorem dL_log_21 : decode cL_log 21 = .ok (.iconst 0, 1) := by decide +kernel
theorem dL_log_22 : decode cL_log 22 = .ok (.ireturn, 1) := by decide +kernel
theorem dL_begun_0 : decode cL_begun 0 = .ok (.aload_n 3, 1) := by decide +kernel
theorem dL_begun_1 : decode cL_begun 1 = .ok (.iconst 0, 1) := by decide +kernel
theorem dL_begun_2 : decode cL_begun 2 = .ok (.aload_n 0, 1) := by decide +kernel
theorem dL_begun_3 : decode cL_begun 3 = .ok (.iload_n 1, 1) := by decide +kernel
theorem dL_begun_4 : decode cL_begun 4 = .ok (.iload_n 2, 1) := by decide +kernel
theorem dL_begun_5 : decode cL_begun 5 = .ok (.invokevirtual 83, 3) := by decide +kernel
theorem dL_begun_8 : decode cL_begun 8 = .ok (.i2l, 1) := by decide +kernel
theorem dL_begun_9 : decode cL_begun 9 = .ok (.lastore, 1) := by decide +kernel
theorem dL_begun_10 : decode cL_begun 10 = .ok (.goto 7, 3) := by decide +kernel
theorem dL_begun_13 : decode cL_begun 13 = .ok (.astore 4, 2) := by decide +kernel
theorem dL_begun_15 : decode cL_begun 15 = .ok (.iconst 1, 1) := by decide +kernel
theorem dL_begun_16 : decode cL_begun 16 = .ok (.ireturn, 1) := by decide +kernel
theorem dL_begun_17 : decode cL_begun 17 = .ok (.iconst 0, 1) := by decide +kernel
theorem dL_begun_18 : decode cL_begun 18 = .ok (.ireturn, 1) := by decide +kernel
theorem dL_game_0 : decode cL_game 0 = .ok (.aload 6, 2) := by decide +kernel
theorem dL_game_2 : decode cL_game 2 = .ok (.iconst 0, 1) := by decide +kernel
theorem dL_game_3 : decode cL_game 3 = .ok (.aload_n 0, 1) := by decide +kernel
theorem dL_game_4 : decode cL_game 4 = .ok (.iload_n 1, 1) := by decide +kernel
theorem dL_game_5 : decode cL_game 5 = .ok (.iload_n 2, 1) := by decide +kernel
theorem dL_game_6 : decode cL_game 6 = .ok (.iload_n 3, 1) := by decide +kernel
theorem dL_game_7 : decode cL_game 7 = .ok (.iload 4, 2) := by decide +kernel
theorem dL_game_9 : decode cL_game 9 = .ok (.iload 5, 2) := by decide +kernel
theorem dL_game_11 : decode cL_game 11 = .ok (.invokevirtual 86, 3) := by decide +kernel
theorem dL_game_14 : decode cL_game 14 = .ok (.i2l, 1) := by decide +kernel
theorem dL_game_15 : decode cL_game 15 = .ok (.lastore, 1) := by decide +kernel
theorem dL_game_16 : decode cL_game 16 = .ok (.goto 11, 3) := by decide +kernel
theorem dL_game_19 : decode cL_game 19 = .ok (.astore 7, 2) := by decide +kernel
theorem dL_game_21 : decode cL_game 21 = .ok (.iconst 1, 1) := by decide +kernel
theorem dL_game_22 : decode cL_game 22 = .ok (.ireturn, 1) := by decide +kernel
theorem dL_game_23 : decode cL_game 23 = .ok (.astore 7, 2) := by decide +kernel
theorem dL_game_25 : decode cL_game 25 = .ok (.iconst 2, 1) := by decide +kernel
theorem dL_game_26 : decode cL_game 26 = .ok (.ireturn, 1) := by decide +kernel
theorem dL_game_27 : decode cL_game 27 = .ok (.iconst 0, 1) := by decide +kernel
theorem dL_game_28 : decode cL_game 28 = .ok (.ireturn, 1) := by decide +kernel
theorem dL_years_0 : decode cL_years 0 = .ok (.aload 4, 2) := by decide +kernel
theorem dL_years_2 : decode cL_years 2 = .ok (.iconst 0, 1) := by decide +kernel
theorem dL_years_3 : decode cL_years 3 = .ok (.aload_n 0, 1) := by decide +kernel
theorem dL_years_4 : decode cL_years 4 = .ok (.iload_n 1, 1) := by decide +kernel
theorem dL_years_5 : decode cL_years 5 = .ok (.iload_n 2, 1) := by decide +kernel
theorem dL_years_6 : decode cL_years 6 = .ok (.iload_n 3, 1) := by decide +kernel
theorem dL_years_7 : decode cL_years 7 = .ok (.invokevirtual 90, 3) := by decide +kernel
theorem dL_years_10 : decode cL_years 10 = .ok (.i2l, 1) := by decide +kernel
theorem dL_years_11 : decode cL_years 11 = .ok (.lastore, 1) := by decide +kernel
theorem dL_years_12 : decode cL_years 12 = .ok (.goto 11, 3) := by decide +kernel
theorem dL_years_15 : decode cL_years 15 = .ok (.astore 5, 2) := by decide +kernel
theorem dL_years_17 : decode cL_years 17 = .ok (.iconst 1, 1) := by decide +kernel
theorem dL_years_18 : decode cL_years 18 = .ok (.ireturn, 1) := by decide +kernel
theorem dL_years_19 : decode cL_years 19 = .ok (.astore 5, 2) := by decide +kernel
theorem dL_years_21 : decode cL_years 21 = .ok (.iconst 2, 1) := by decide +kernel
theorem dL_years_22 : decode cL_years 22 = .ok (.ireturn, 1) := by decide +kernel
theorem dL_years_23 : decode cL_years 23 = .ok (.iconst 0, 1) := by decide +kernel
theorem dL_years_24 : decode cL_years 24 = .ok (.ireturn, 1) := by decide +kernel
theorem dL_father_0 : decode cL_father 0 = .ok (.aload_n 3, 1) := by decide +kernel
theorem dL_father_1 : decode cL_father 1 = .ok (.iconst 0, 1) := by decide +kernel
theorem dL_father_2 : decode cL_father 2 = .ok (.aload_n 0, 1) := by decide +kernel
theorem dL_father_3 : decode cL_father 3 = .ok (.iload_n 1, 1) := by decide +kernel
theorem dL_father_4 : decode cL_father 4 = .ok (.iload_n 2, 1) := by decide +kernel
theorem dL_father_5 : decode cL_father 5 = .ok (.invokevirtual 93, 3) := by decide +kernel
theorem dL_father_8 : decode cL_father 8 = .ok (.i2l, 1) := by decide +kernel
theorem dL_father_9 : decode cL_father 9 = .ok (.lastore, 1) := by decide +kernel
theorem dL_father_10 : decode cL_father 10 = .ok (.goto 7, 3) := by decide +kernel
theorem dL_father_13 : decode cL_father 13 = .ok (.astore 4, 2) := by decide +kernel
theorem dL_father_15 : decode cL_father 15 = .ok (.iconst 1, 1) := by decide +kernel
theorem dL_father_16 : decode cL_father 16 = .ok (.ireturn, 1) := by decide +kernel
theorem dL_father_17 : decode cL_father 17 = .ok (.iconst 0, 1) := by decide +kernel
theorem dL_father_18 : decode cL_father 18 = .ok (.ireturn, 1) := by decide +kernel
theorem dL_journey_0 : decode cL_journey 0 = .ok (.aload_n 3, 1) := by decide +kernel
theorem dL_journey_1 : decode cL_journey 1 = .ok (.iconst 0, 1) := by decide +kernel
theorem dL_journey_2 : decode cL_journey 2 = .ok (.aload_n 0, 1) := by decide +kernel
theorem dL_journey_3 : decode cL_journey 3 = .ok (.iload_n 1, 1) := by decide +kernel
theorem dL_journey_4 : decode cL_journey 4 = .ok (.iload_n 2, 1) := by decide +kernel
theorem dL_journey_5 : decode cL_journey 5 = .ok (.invokevirtual 96, 3) := by decide +kernel
theorem dL_journey_8 : decode cL_journey 8 = .ok (.i2l, 1) := by decide +kernel
theorem dL_journey_9 : decode cL_journey 9 = .ok (.lastore, 1) := by decide +kernel
theorem dL_journey_10 : decode cL_journey 10 = .ok (.goto 7, 3) := by decide +kernel
theorem dL_journey_13 : decode cL_journey 13 = .ok (.astore 4, 2) := by decide +kernel
theorem dL_journey_15 : decode cL_journey 15 = .ok (.iconst 1, 1) := by decide +kernel
theorem dL_journey_16 : decode cL_journey 16 = .ok (.ireturn, 1) := by decide +kernel
theorem dL_journey_17 : decode cL_journey 17 = .ok (.iconst 0, 1) := by decide +kernel
theorem dL_journey_18 : decode cL_journey 18 = .ok (.ireturn, 1) := by decide +kernel
theorem dL_sparing_0 : decode cL_sparing 0 = .ok (.aload_n 2, 1) := by decide +kernel
theorem dL_sparing_1 : decode cL_sparing 1 = .ok (.iconst 0, 1) := by decide +kernel
theorem dL_sparing_2 : decode cL_sparing 2 = .ok (.aload_n 0, 1) := by decide +kernel
theorem dL_sparing_3 : decode cL_sparing 3 = .ok (.iload_n 1, 1) := by decide +kernel
theorem dL_sparing_4 : decode cL_sparing 4 = .ok (.invokevirtual 99, 3) := by decide +kernel
theorem dL_sparing_7 : decode cL_sparing 7 = .ok (.i2l, 1) := by decide +kernel
theorem dL_sparing_8 : decode cL_sparing 8 = .ok (.lastore, 1) := by decide +kernel
theorem dL_sparing_9 : decode cL_sparing 9 = .ok (.goto 6, 3) := by decide +kernel
theorem dL_sparing_12 : decode cL_sparing 12 = .ok (.astore_n 3, 1) := by decide +kernel
theorem dL_sparing_13 : decode cL_sparing 13 = .ok (.iconst 1, 1) := by decide +kernel
theorem dL_sparing_14 : decode cL_sparing 14 = .ok (.ireturn, 1) := by decide +kernel
theorem dL_sparing_15 : decode cL_sparing 15 = .ok (.iconst 0, 1) := by decide +kernel
theorem dL_sparing_16 : decode cL_sparing 16 = .ok (.ireturn, 1) := by decide +kernel
theorem dL_start_0 : decode cL_start 0 = .ok (.aload_n 3, 1) := by decide +kernel
theorem dL_start_1 : decode cL_start 1 = .ok (.iconst 0, 1) := by decide +kernel
theorem dL_start_2 : decode cL_start 2 = .ok (.aload_n 0, 1) := by decide +kernel
theorem dL_start_3 : decode cL_start 3 = .ok (.iload_n 1, 1) := by decide +kernel
theorem dL_start_4 : decode cL_start 4 = .ok (.iload_n 2, 1) := by decide +kernel
theorem dL_start_5 : decode cL_start 5 = .ok (.invokevirtual 102, 3) := by decide +kernel
theorem dL_start_8 : decode cL_start 8 = .ok (.i2l, 1) := by decide +kernel
theorem dL_start_9 : decode cL_start 9 = .ok (.lastore, 1) := by decide +kernel
theorem dL_start_10 : decode cL_start 10 = .ok (.goto 7, 3) := by decide +kernel
theorem dL_start_13 : decode cL_start 13 = .ok (.astore 4, 2) := by decide +kernel
theorem dL_start_15 : decode cL_start 15 = .ok (.iconst 1, 1) := by decide +kernel
theorem dL_start_16 : decode cL_start 16 = .ok (.ireturn, 1) := by decide +kernel
theorem dL_start_17 : decode cL_start 17 = .ok (.iconst 0, 1) := by decide +kernel
theorem dL_start_18 : decode cL_start 18 = .ok (.ireturn, 1) := by decide +kernel
theorem dL_alone_0 : decode cL_alone 0 = .ok (.aload_n 2, 1) := by decide +kernel
theorem dL_alone_1 : decode cL_alone 1 = .ok (.iconst 0, 1) := by decide +kernel
theorem dL_alone_2 : decode cL_alone 2 = .ok (.aload_n 0, 1) := by decide +kernel
theorem dL_alone_3 : decode cL_alone 3 = .ok (.iload_n 1, 1) := by decide +kernel
theorem dL_alone_4 : decode cL_alone 4 = .ok (.invokevirtual 105, 3) := by decide +kernel
theorem dL_alone_7 : decode cL_alone 7 = .ok (.i2l, 1) := by decide +kernel
theorem dL_alone_8 : decode cL_alone 8 = .ok (.lastore, 1) := by decide +kernel
theorem dL_alone_9 : decode cL_alone 9 = .ok (.goto 6, 3) := by decide +kernel
theorem dL_alone_12 : decode cL_alone 12 = .ok (.astore_n 3, 1) := by decide +kernel
theorem dL_alone_13 : decode cL_alone 13 = .ok (.iconst 1, 1) := by decide +kernel
theorem dL_alone_14 : decode cL_alone 14 = .ok (.ireturn, 1) := by decide +kernel
theorem dL_alone_15 : decode cL_alone 15 = .ok (.iconst 0, 1) := by decide +kernel
theorem dL_alone_16 : decode cL_alone 16 = .ok (.ireturn, 1) := by decide +kernel
theorem dL_quarrels_0 : decode cL_quarrels 0 = .ok (.aload_n 2, 1) := by decide +kernel
theorem dL_quarrels_1 : decode cL_quarrels 1 = .ok (.iconst 0, 1) := by decide +kernel
theorem dL_quarrels_2 : decode cL_quarrels 2 = .ok (.aload_n 0, 1) := by decide +kernel
theorem dL_quarrels_3 : decode cL_quarrels 3 = .ok (.iload_n 1, 1) := by decide +kernel
theorem dL_quarrels_4 : decode cL_quarrels 4 = .ok (.invokevirtual 108, 3) := by decide +kernel
theorem dL_quarrels_7 : decode cL_quarrels 7 = .ok (.i2l, 1) := by decide +kernel
theorem dL_quarrels_8 : decode cL_quarrels 8 = .ok (.lastore, 1) := by decide +kernel
theorem dL_quarrels_9 : decode cL_quarrels 9 = .ok (.goto 6, 3) := by decide +kernel
theorem dL_quarrels_12 : decode cL_quarrels 12 = .ok (.astore_n 3, 1) := by decide +kernel
theorem dL_quarrels_13 : decode cL_quarrels 13 = .ok (.iconst 1, 1) := by decide +kernel
theorem dL_quarrels_14 : decode cL_quarrels 14 = .ok (.ireturn, 1) := by decide +kernel
theorem dL_quarrels_15 : decode cL_quarrels 15 = .ok (.iconst 0, 1) := by decide +kernel
theorem dL_quarrels_16 : decode cL_quarrels 16 = .ok (.ireturn, 1) := by decide +kernel
theorem dL_law_0 : decode cL_law 0 = .ok (.new 8, 3) := by decide +kernel
theorem dL_law_3 : decode cL_law 3 = .ok (.dup, 1) := by decide +kernel
theorem dL_law_4 : decode cL_law 4 = .ok (.invokespecial 111, 3) := by decide +kernel
theorem dL_law_7 : decode cL_law 7 = .ok (.astore_n 1, 1) := by decide +kernel
theorem dL_law_8 : decode cL_law 8 = .ok (.new 112, 3) := by decide +kernel
theorem dL_law_11 : decode cL_law 11 = .ok (.dup, 1) := by decide +kernel
theorem dL_law_12 : decode cL_law 12 = .ok (.invokespecial 114, 3) := by decide +kernel
theorem dL_law_15 : decode cL_law 15 = .ok (.astore_n 2, 1) := by decide +kernel
theorem dL_law_16 : decode cL_law 16 = .ok (.iconst 1, 1) := by decide +kernel
theorem dL_law_17 : decode cL_law 17 = .ok (.newarray .long, 2) := by decide +kernel
theorem dL_law_19 : decode cL_law 19 = .ok (.astore_n 3, 1) := by decide +kernel
theorem dL_law_20 : decode cL_law 20 = .ok (.iconst 0, 1) := by decide +kernel
theorem dL_law_21 : decode cL_law 21 = .ok (.istore 4, 2) := by decide +kernel
theorem dL_law_23 : decode cL_law 23 = .ok (.iload 4, 2) := by decide +kernel
theorem dL_law_25 : decode cL_law 25 = .ok (.aload_n 0, 1) := by decide +kernel
theorem dL_law_26 : decode cL_law 26 = .ok (.arraylength, 1) := by decide +kernel
theorem dL_law_27 : decode cL_law 27 = .ok (.bipush 6, 2) := by decide +kernel
theorem dL_law_29 : decode cL_law 29 = .ok (.isub, 1) := by decide +kernel
theorem dL_law_30 : decode cL_law 30 = .ok (.if_icmp .gt 2506, 3) := by decide +kernel
theorem dL_law_33 : decode cL_law 33 = .ok (.aload_n 0, 1) := by decide +kernel
theorem dL_law_34 : decode cL_law 34 = .ok (.iload 4, 2) := by decide +kernel
theorem dL_law_36 : decode cL_law 36 = .ok (.iaload, 1) := by decide +kernel
theorem dL_law_37 : decode cL_law 37 = .ok (.bipush 63, 2) := by decide +kernel
theorem dL_law_39 : decode cL_law 39 = .ok (.iand, 1) := by decide +kernel
theorem dL_law_40 : decode cL_law 40 = .ok (.tableswitch 2490 0 40 #[180, 253, 309, 322, 378, 446, 514, 582, 662, 730, 798, 854, 922, 990, 1058, 1126, 1151, 1219, 1232, 1288, 1356, 1424, 1480, 1548, 1604, 1617, 1697, 1805, 1816, 1829, 1897, 2001, 2081, 2149, 2217, 2230, 2286, 2354, 2410, 2466, 2477], 180) := by decide +kernel
theorem dL_law_220 : decode cL_law 220 = .ok (.aload_n 1, 1) := by decide +kernel
theorem dL_law_221 : decode cL_law 221 = .ok (.aload_n 0, 1) := by decide +kernel
theorem dL_law_222 : decode cL_law 222 = .ok (.iload 4, 2) := by decide +kernel
theorem dL_law_224 : decode cL_law 224 = .ok (.iconst 1, 1) := by decide +kernel
theorem dL_law_225 : decode cL_law 225 = .ok (.iadd, 1) := by decide +kernel
theorem dL_law_226 : decode cL_law 226 = .ok (.iaload, 1) := by decide +kernel
theorem dL_law_227 : decode cL_law 227 = .ok (.aload_n 0, 1) := by decide +kernel
theorem dL_law_228 : decode cL_law 228 = .ok (.iload 4, 2) := by decide +kernel
theorem dL_law_230 : decode cL_law 230 = .ok (.iconst 2, 1) := by decide +kernel
theorem dL_law_231 : decode cL_law 231 = .ok (.iadd, 1) := by decide +kernel
theorem dL_law_232 : decode cL_law 232 = .ok (.iaload, 1) := by decide +kernel
theorem dL_law_233 : decode cL_law 233 = .ok (.aload_n 0, 1) := by decide +kernel
theorem dL_law_234 : decode cL_law 234 = .ok (.iload 4, 2) := by decide +kernel
theorem dL_law_236 : decode cL_law 236 = .ok (.iconst 3, 1) := by decide +kernel
theorem dL_law_237 : decode cL_law 237 = .ok (.iadd, 1) := by decide +kernel
theorem dL_law_238 : decode cL_law 238 = .ok (.iaload, 1) := by decide +kernel
theorem dL_law_239 : decode cL_law 239 = .ok (.aload_n 0, 1) := by decide +kernel
theorem dL_law_240 : decode cL_law 240 = .ok (.iload 4, 2) := by decide +kernel
theorem dL_law_242 : decode cL_law 242 = .ok (.iconst 4, 1) := by decide +kernel
theorem dL_law_243 : decode cL_law 243 = .ok (.iadd, 1) := by decide +kernel
theorem dL_law_244 : decode cL_law 244 = .ok (.iaload, 1) := by decide +kernel
theorem dL_law_245 : decode cL_law 245 = .ok (.aload_n 0, 1) := by decide +kernel
theorem dL_law_246 : decode cL_law 246 = .ok (.iload 4, 2) := by decide +kernel
theorem dL_law_248 : decode cL_law 248 = .ok (.iconst 5, 1) := by decide +kernel
theorem dL_law_249 : decode cL_law 249 = .ok (.iadd, 1) := by decide +kernel
theorem dL_law_250 : decode cL_law 250 = .ok (.iaload, 1) := by decide +kernel
theorem dL_law_251 : decode cL_law 251 = .ok (.invokevirtual 115, 3) := by decide +kernel
theorem dL_law_254 : decode cL_law 254 = .ok (.aload_n 2, 1) := by decide +kernel
theorem dL_law_255 : decode cL_law 255 = .ok (.aload_n 0, 1) := by decide +kernel
theorem dL_law_256 : decode cL_law 256 = .ok (.iload 4, 2) := by decide +kernel
theorem dL_law_258 : decode cL_law 258 = .ok (.iconst 1, 1) := by decide +kernel
theorem dL_law_259 : decode cL_law 259 = .ok (.iadd, 1) := by decide +kernel
theorem dL_law_260 : decode cL_law 260 = .ok (.iaload, 1) := by decide +kernel
theorem dL_law_261 : decode cL_law 261 = .ok (.aload_n 0, 1) := by decide +kernel
theorem dL_law_262 : decode cL_law 262 = .ok (.iload 4, 2) := by decide +kernel
theorem dL_law_264 : decode cL_law 264 = .ok (.iconst 2, 1) := by decide +kernel
theorem dL_law_265 : decode cL_law 265 = .ok (.iadd, 1) := by decide +kernel
theorem dL_law_266 : decode cL_law 266 = .ok (.iaload, 1) := by decide +kernel
theorem dL_law_267 : decode cL_law 267 = .ok (.aload_n 0, 1) := by decide +kernel
theorem dL_law_268 : decode cL_law 268 = .ok (.iload 4, 2) := by decide +kernel
theorem dL_law_270 : decode cL_law 270 = .ok (.iconst 3, 1) := by decide +kernel
theorem dL_law_271 : decode cL_law 271 = .ok (.iadd, 1) := by decide +kernel
theorem dL_law_272 : decode cL_law 272 = .ok (.iaload, 1) := by decide +kernel
theorem dL_law_273 : decode cL_law 273 = .ok (.aload_n 0, 1) := by decide +kernel
theorem dL_law_274 : decode cL_law 274 = .ok (.iload 4, 2) := by decide +kernel
theorem dL_law_276 : decode cL_law 276 = .ok (.iconst 4, 1) := by decide +kernel
theorem dL_law_277 : decode cL_law 277 = .ok (.iadd, 1) := by decide +kernel
theorem dL_law_278 : decode cL_law 278 = .ok (.iaload, 1) := by decide +kernel
theorem dL_law_279 : decode cL_law 279 = .ok (.aload_n 0, 1) := by decide +kernel
theorem dL_law_280 : decode cL_law 280 = .ok (.iload 4, 2) := by decide +kernel
theorem dL_law_282 : decode cL_law 282 = .ok (.iconst 5, 1) := by decide +kernel
theorem dL_law_283 : decode cL_law 283 = .ok (.iadd, 1) := by decide +kernel
theorem dL_law_284 : decode cL_law 284 = .ok (.iaload, 1) := by decide +kernel
theorem dL_law_285 : decode cL_law 285 = .ok (.invokevirtual 118, 3) := by decide +kernel
theorem dL_law_288 : decode cL_law 288 = .ok (.if_icmp .eq 2242, 3) := by decide +kernel
theorem dL_law_291 : decode cL_law 291 = .ok (.iconst 0, 1) := by decide +kernel
theorem dL_law_292 : decode cL_law 292 = .ok (.ireturn, 1) := by decide +kernel
theorem dL_law_293 : decode cL_law 293 = .ok (.aload_n 1, 1) := by decide +kernel
theorem dL_law_294 : decode cL_law 294 = .ok (.aload_n 0, 1) := by decide +kernel
theorem dL_law_295 : decode cL_law 295 = .ok (.iload 4, 2) := by decide +kernel
theorem dL_law_297 : decode cL_law 297 = .ok (.iconst 1, 1) := by decide +kernel
theorem dL_law_298 : decode cL_law 298 = .ok (.iadd, 1) := by decide +kernel
theorem dL_law_299 : decode cL_law 299 = .ok (.iaload, 1) := by decide +kernel
theorem dL_law_300 : decode cL_law 300 = .ok (.aload_n 3, 1) := by decide +kernel
theorem dL_law_301 : decode cL_law 301 = .ok (.invokestatic 119, 3) := by decide +kernel
theorem dL_law_304 : decode cL_law 304 = .ok (.istore 5, 2) := by decide +kernel
theorem dL_law_306 : decode cL_law 306 = .ok (.aload_n 2, 1) := by decide +kernel
theorem dL_law_307 : decode cL_law 307 = .ok (.aload_n 0, 1) := by decide +kernel
theorem dL_law_308 : decode cL_law 308 = .ok (.iload 4, 2) := by decide +kernel
theorem dL_law_310 : decode cL_law 310 = .ok (.iconst 1, 1) := by decide +kernel
theorem dL_law_311 : decode cL_law 311 = .ok (.iadd, 1) := by decide +kernel
theorem dL_law_312 : decode cL_law 312 = .ok (.iaload, 1) := by decide +kernel
theorem dL_law_313 : decode cL_law 313 = .ok (.invokevirtual 124, 3) := by decide +kernel
theorem dL_law_316 : decode cL_law 316 = .ok (.istore 6, 2) := by decide +kernel
theorem dL_law_318 : decode cL_law 318 = .ok (.aload_n 2, 1) := by decide +kernel
theorem dL_law_319 : decode cL_law 319 = .ok (.invokevirtual 125, 3) := by decide +kernel
theorem dL_law_322 : decode cL_law 322 = .ok (.iload 5, 2) := by decide +kernel
theorem dL_law_324 : decode cL_law 324 = .ok (.if_icmp .eq 5, 3) := by decide +kernel
theorem dL_law_327 : decode cL_law 327 = .ok (.iconst 0, 1) := by decide +kernel
theorem dL_law_328 : decode cL_law 328 = .ok (.ireturn, 1) := by decide +kernel
theorem dL_law_329 : decode cL_law 329 = .ok (.iload 5, 2) := by decide +kernel
theorem dL_law_331 : decode cL_law 331 = .ok (.ifCond .ne 15, 3) := by decide +kernel
theorem dL_law_334 : decode cL_law 334 = .ok (.aload_n 3, 1) := by decide +kernel
theorem dL_law_335 : decode cL_law 335 = .ok (.iconst 0, 1) := by decide +kernel
theorem dL_law_336 : decode cL_law 336 = .ok (.laload, 1) := by decide +kernel
theorem dL_law_337 : decode cL_law 337 = .ok (.iload 6, 2) := by decide +kernel
theorem dL_law_339 : decode cL_law 339 = .ok (.i2l, 1) := by decide +kernel
theorem dL_law_340 : decode cL_law 340 = .ok (.lcmp, 1) := by decide +kernel
theorem dL_law_341 : decode cL_law 341 = .ok (.ifCond .eq 5, 3) := by decide +kernel
theorem dL_law_344 : decode cL_law 344 = .ok (.iconst 0, 1) := by decide +kernel
theorem dL_law_345 : decode cL_law 345 = .ok (.ireturn, 1) := by decide +kernel
theorem dL_law_346 : decode cL_law 346 = .ok (.goto 2184, 3) := by decide +kernel
theorem dL_law_349 : decode cL_law 349 = .ok (.aload_n 1, 1) := by decide +kernel
theorem dL_law_350 : decode cL_law 350 = .ok (.invokevirtual 129, 3) := by decide +kernel
theorem dL_law_353 : decode cL_law 353 = .ok (.aload_n 2, 1) := by decide +kernel
theorem dL_law_354 : decode cL_law 354 = .ok (.invokevirtual 132, 3) := by decide +kernel
theorem dL_law_357 : decode cL_law 357 = .ok (.if_icmp .eq 2173, 3) := by decide +kernel
theorem dL_law_360 : decode cL_law 360 = .ok (.iconst 0, 1) := by decide +kernel
theorem dL_law_361 : decode cL_law 361 = .ok (.ireturn, 1) := by decide +kernel
theorem dL_law_362 : decode cL_law 362 = .ok (.aload_n 1, 1) := by decide +kernel
theorem dL_law_363 : decode cL_law 363 = .ok (.aload_n 0, 1) := by decide +kernel
theorem dL_law_364 : decode cL_law 364 = .ok (.iload 4, 2) := by decide +kernel
theorem dL_law_366 : decode cL_law 366 = .ok (.iconst 1, 1) := by decide +kernel
theorem dL_law_367 : decode cL_law 367 = .ok (.iadd, 1) := by decide +kernel
theorem dL_law_368 : decode cL_law 368 = .ok (.iaload, 1) := by decide +kernel
theorem dL_law_369 : decode cL_law 369 = .ok (.aload_n 3, 1) := by decide +kernel
theorem dL_law_370 : decode cL_law 370 = .ok (.invokestatic 133, 3) := by decide +kernel
theorem dL_law_373 : decode cL_law 373 = .ok (.istore 5, 2) := by decide +kernel
theorem dL_law_375 : decode cL_law 375 = .ok (.aload_n 2, 1) := by decide +kernel
theorem dL_law_376 : decode cL_law 376 = .ok (.aload_n 0, 1) := by decide +kernel
theorem dL_law_377 : decode cL_law 377 = .ok (.iload 4, 2) := by decide +kernel
theorem dL_law_379 : decode cL_law 379 = .ok (.iconst 1, 1) := by decide +kernel
theorem dL_law_380 : decode cL_law 380 = .ok (.iadd, 1) := by decide +kernel
theorem dL_law_381 : decode cL_law 381 = .ok (.iaload, 1) := by decide +kernel
theorem dL_law_382 : decode cL_law 382 = .ok (.invokevirtual 135, 3) := by decide +kernel
theorem dL_law_385 : decode cL_law 385 = .ok (.istore 6, 2) := by decide +kernel
theorem dL_law_387 : decode cL_law 387 = .ok (.aload_n 2, 1) := by decide +kernel
theorem dL_law_388 : decode cL_law 388 = .ok (.invokevirtual 125, 3) := by decide +kernel
theorem dL_law_391 : decode cL_law 391 = .ok (.iload 5, 2) := by decide +kernel
theorem dL_law_393 : decode cL_law 393 = .ok (.if_icmp .eq 5, 3) := by decide +kernel
theorem dL_law_396 : decode cL_law 396 = .ok (.iconst 0, 1) := by decide +kernel
theorem dL_law_397 : decode cL_law 397 = .ok (.ireturn, 1) := by decide +kernel
theorem dL_law_398 : decode cL_law 398 = .ok (.iload 5, 2) := by decide +kernel
theorem dL_law_400 : decode cL_law 400 = .ok (.ifCond .ne 15, 3) := by decide +kernel
theorem dL_law_403 : decode cL_law 403 = .ok (.aload_n 3, 1) := by decide +kernel
theorem dL_law_404 : decode cL_law 404 = .ok (.iconst 0, 1) := by decide +kernel
theorem dL_law_405 : decode cL_law 405 = .ok (.laload, 1) := by decide +kernel
theorem dL_law_406 : decode cL_law 406 = .ok (.iload 6, 2) := by decide +kernel
theorem dL_law_408 : decode cL_law 408 = .ok (.i2l, 1) := by decide +kernel
theorem dL_law_409 : decode cL_law 409 = .ok (.lcmp, 1) := by decide +kernel
theorem dL_law_410 : decode cL_law 410 = .ok (.ifCond .eq 5, 3) := by decide +kernel
theorem dL_law_413 : decode cL_law 413 = .ok (.iconst 0, 1) := by decide +kernel
theorem dL_law_414 : decode cL_law 414 = .ok (.ireturn, 1) := by decide +kernel
theorem dL_law_415 : decode cL_law 415 = .ok (.goto 2115, 3) := by decide +kernel
theorem dL_law_418 : decode cL_law 418 = .ok (.aload_n 1, 1) := by decide +kernel
theorem dL_law_419 : decode cL_law 419 = .ok (.aload_n 0, 1) := by decide +kernel
theorem dL_law_420 : decode cL_law 420 = .ok (.iload 4, 2) := by decide +kernel
theorem dL_law_422 : decode cL_law 422 = .ok (.iconst 1, 1) := by decide +kernel
theorem dL_law_423 : decode cL_law 423 = .ok (.iadd, 1) := by decide +kernel
theorem dL_law_424 : decode cL_law 424 = .ok (.iaload, 1) := by decide +kernel
theorem dL_law_425 : decode cL_law 425 = .ok (.aload_n 0, 1) := by decide +kernel
theorem dL_law_426 : decode cL_law 426 = .ok (.iload 4, 2) := by decide +kernel
theorem dL_law_428 : decode cL_law 428 = .ok (.iconst 2, 1) := by decide +kernel
theorem dL_law_429 : decode cL_law 429 = .ok (.iadd, 1) := by decide +kernel
theorem dL_law_430 : decode cL_law 430 = .ok (.iaload, 1) := by decide +kernel
theorem dL_law_431 : decode cL_law 431 = .ok (.aload_n 3, 1) := by decide +kernel
theorem dL_law_432 : decode cL_law 432 = .ok (.invokestatic 136, 3) := by decide +kernel
theorem dL_law_435 : decode cL_law 435 = .ok (.istore 5, 2) := by decide +kernel
theorem dL_law_437 : decode cL_law 437 = .ok (.aload_n 2, 1) := by decide +kernel
theorem dL_law_438 : decode cL_law 438 = .ok (.aload_n 0, 1) := by decide +kernel
theorem dL_law_439 : decode cL_law 439 = .ok (.iload 4, 2) := by decide +kernel
theorem dL_law_441 : decode cL_law 441 = .ok (.iconst 1, 1) := by decide +kernel
theorem dL_law_442 : decode cL_law 442 = .ok (.iadd, 1) := by decide +kernel
theorem dL_law_443 : decode cL_law 443 = .ok (.iaload, 1) := by decide +kernel
theorem dL_law_444 : decode cL_law 444 = .ok (.aload_n 0, 1) := by decide +kernel
theorem dL_law_445 : decode cL_law 445 = .ok (.iload 4, 2) := by decide +kernel
theorem dL_law_447 : decode cL_law 447 = .ok (.iconst 2, 1) := by decide +kernel
theorem dL_law_448 : decode cL_law 448 = .ok (.iadd, 1) := by decide +kernel
theorem dL_law_449 : decode cL_law 449 = .ok (.iaload, 1) := by decide +kernel
theorem dL_law_450 : decode cL_law 450 = .ok (.invokevirtual 139, 3) := by decide +kernel
theorem dL_law_453 : decode cL_law 453 = .ok (.istore 6, 2) := by decide +kernel
theorem dL_law_455 : decode cL_law 455 = .ok (.aload_n 2, 1) := by decide +kernel
theorem dL_law_456 : decode cL_law 456 = .ok (.invokevirtual 125, 3) := by decide +kernel
theorem dL_law_459 : decode cL_law 459 = .ok (.iload 5, 2) := by decide +kernel
theorem dL_law_461 : decode cL_law 461 = .ok (.if_icmp .eq 5, 3) := by decide +kernel
theorem dL_law_464 : decode cL_law 464 = .ok (.iconst 0, 1) := by decide +kernel
theorem dL_law_465 : decode cL_law 465 = .ok (.ireturn, 1) := by decide +kernel
theorem dL_law_466 : decode cL_law 466 = .ok (.iload 5, 2) := by decide +kernel
theorem dL_law_468 : decode cL_law 468 = .ok (.ifCond .ne 15, 3) := by decide +kernel
theorem dL_law_471 : decode cL_law 471 = .ok (.aload_n 3, 1) := by decide +kernel
theorem dL_law_472 : decode cL_law 472 = .ok (.iconst 0, 1) := by decide +kernel
theorem dL_law_473 : decode cL_law 473 = .ok (.laload, 1) := by decide +kernel
theorem dL_law_474 : decode cL_law 474 = .ok (.iload 6, 2) := by decide +kernel
theorem dL_law_476 : decode cL_law 476 = .ok (.i2l, 1) := by decide +kernel
theorem dL_law_477 : decode cL_law 477 = .ok (.lcmp, 1) := by decide +kernel
theorem dL_law_478 : decode cL_law 478 = .ok (.ifCond .eq 5, 3) := by decide +kernel
theorem dL_law_481 : decode cL_law 481 = .ok (.iconst 0, 1) := by decide +kernel
theorem dL_law_482 : decode cL_law 482 = .ok (.ireturn, 1) := by decide +kernel
theorem dL_law_483 : decode cL_law 483 = .ok (.goto 2047, 3) := by decide +kernel
theorem dL_law_486 : decode cL_law 486 = .ok (.aload_n 1, 1) := by decide +kernel
theorem dL_law_487 : decode cL_law 487 = .ok (.aload_n 0, 1) := by decide +kernel
theorem dL_law_488 : decode cL_law 488 = .ok (.iload 4, 2) := by decide +kernel
theorem dL_law_490 : decode cL_law 490 = .ok (.iconst 1, 1) := by decide +kernel
theorem dL_law_491 : decode cL_law 491 = .ok (.iadd, 1) := by decide +kernel
theorem dL_law_492 : decode cL_law 492 = .ok (.iaload, 1) := by decide +kernel
theorem dL_law_493 : decode cL_law 493 = .ok (.aload_n 0, 1) := by decide +kernel
theorem dL_law_494 : decode cL_law 494 = .ok (.iload 4, 2) := by decide +kernel
theorem dL_law_496 : decode cL_law 496 = .ok (.iconst 2, 1) := by decide +kernel
theorem dL_law_497 : decode cL_law 497 = .ok (.iadd, 1) := by decide +kernel
theorem dL_law_498 : decode cL_law 498 = .ok (.iaload, 1) := by decide +kernel
theorem dL_law_499 : decode cL_law 499 = .ok (.aload_n 3, 1) := by decide +kernel
theorem dL_law_500 : decode cL_law 500 = .ok (.invokestatic 140, 3) := by decide +kernel
theorem dL_law_503 : decode cL_law 503 = .ok (.istore 5, 2) := by decide +kernel
theorem dL_law_505 : decode cL_law 505 = .ok (.aload_n 2, 1) := by decide +kernel
theorem dL_law_506 : decode cL_law 506 = .ok (.aload_n 0, 1) := by decide +kernel
theorem dL_law_507 : decode cL_law 507 = .ok (.iload 4, 2) := by decide +kernel
theorem dL_law_509 : decode cL_law 509 = .ok (.iconst 1, 1) := by decide +kernel
theorem dL_law_510 : decode cL_law 510 = .ok (.iadd, 1) := by decide +kernel
theorem dL_law_511 : decode cL_law 511 = .ok (.iaload, 1) := by decide +kernel
theorem dL_law_512 : decode cL_law 512 = .ok (.aload_n 0, 1) := by decide +kernel
theorem dL_law_513 : decode cL_law 513 = .ok (.iload 4, 2) := by decide +kernel
theorem dL_law_515 : decode cL_law 515 = .ok (.iconst 2, 1) := by decide +kernel
theorem dL_law_516 : decode cL_law 516 = .ok (.iadd, 1) := by decide +kernel
theorem dL_law_517 : decode cL_law 517 = .ok (.iaload, 1) := by decide +kernel
theorem dL_law_518 : decode cL_law 518 = .ok (.invokevirtual 142, 3) := by decide +kernel
theorem dL_law_521 : decode cL_law 521 = .ok (.istore 6, 2) := by decide +kernel
theorem dL_law_523 : decode cL_law 523 = .ok (.aload_n 2, 1) := by decide +kernel
theorem dL_law_524 : decode cL_law 524 = .ok (.invokevirtual 125, 3) := by decide +kernel
theorem dL_law_527 : decode cL_law 527 = .ok (.iload 5, 2) := by decide +kernel
theorem dL_law_529 : decode cL_law 529 = .ok (.if_icmp .eq 5, 3) := by decide +kernel
theorem dL_law_532 : decode cL_law 532 = .ok (.iconst 0, 1) := by decide +kernel
theorem dL_law_533 : decode cL_law 533 = .ok (.ireturn, 1) := by decide +kernel
theorem dL_law_534 : decode cL_law 534 = .ok (.iload 5, 2) := by decide +kernel
theorem dL_law_536 : decode cL_law 536 = .ok (.ifCond .ne 15, 3) := by decide +kernel
theorem dL_law_539 : decode cL_law 539 = .ok (.aload_n 3, 1) := by decide +kernel
theorem dL_law_540 : decode cL_law 540 = .ok (.iconst 0, 1) := by decide +kernel
theorem dL_law_541 : decode cL_law 541 = .ok (.laload, 1) := by decide +kernel
theorem dL_law_542 : decode cL_law 542 = .ok (.iload 6, 2) := by decide +kernel
theorem dL_law_544 : decode cL_law 544 = .ok (.i2l, 1) := by decide +kernel
theorem dL_law_545 : decode cL_law 545 = .ok (.lcmp, 1) := by decide +kernel
theorem dL_law_546 : decode cL_law 546 = .ok (.ifCond .eq 5, 3) := by decide +kernel
theorem dL_law_549 : decode cL_law 549 = .ok (.iconst 0, 1) := by decide +kernel
theorem dL_law_550 : decode cL_law 550 = .ok (.ireturn, 1) := by decide +kernel
theorem dL_law_551 : decode cL_law 551 = .ok (.goto 1979, 3) := by decide +kernel
theorem dL_law_554 : decode cL_law 554 = .ok (.aload_n 1, 1) := by decide +kernel
theorem dL_law_555 : decode cL_law 555 = .ok (.aload_n 0, 1) := by decide +kernel
theorem dL_law_556 : decode cL_law 556 = .ok (.iload 4, 2) := by decide +kernel
theorem dL_law_558 : decode cL_law 558 = .ok (.iconst 1, 1) := by decide +kernel
theorem dL_law_559 : decode cL_law 559 = .ok (.iadd, 1) := by decide +kernel
theorem dL_law_560 : decode cL_law 560 = .ok (.iaload, 1) := by decide +kernel
theorem dL_law_561 : decode cL_law 561 = .ok (.aload_n 0, 1) := by decide +kernel
theorem dL_law_562 : decode cL_law 562 = .ok (.iload 4, 2) := by decide +kernel
theorem dL_law_564 : decode cL_law 564 = .ok (.iconst 2, 1) := by decide +kernel
theorem dL_law_565 : decode cL_law 565 = .ok (.iadd, 1) := by decide +kernel
theorem dL_law_566 : decode cL_law 566 = .ok (.iaload, 1) := by decide +kernel
theorem dL_law_567 : decode cL_law 567 = .ok (.aload_n 3, 1) := by decide +kernel
theorem dL_law_568 : decode cL_law 568 = .ok (.invokestatic 143, 3) := by decide +kernel
theorem dL_law_571 : decode cL_law 571 = .ok (.istore 5, 2) := by decide +kernel
theorem dL_law_573 : decode cL_law 573 = .ok (.aload_n 2, 1) := by decide +kernel
theorem dL_law_574 : decode cL_law 574 = .ok (.aload_n 0, 1) := by decide +kernel
theorem dL_law_575 : decode cL_law 575 = .ok (.iload 4, 2) := by decide +kernel
theorem dL_law_577 : decode cL_law 577 = .ok (.iconst 1, 1) := by decide +kernel
theorem dL_law_578 : decode cL_law 578 = .ok (.iadd, 1) := by decide +kernel
theorem dL_law_579 : decode cL_law 579 = .ok (.iaload, 1) := by decide +kernel
theorem dL_law_580 : decode cL_law 580 = .ok (.aload_n 0, 1) := by decide +kernel
theorem dL_law_581 : decode cL_law 581 = .ok (.iload 4, 2) := by decide +kernel
theorem dL_law_583 : decode cL_law 583 = .ok (.iconst 2, 1) := by decide +kernel
theorem dL_law_584 : decode cL_law 584 = .ok (.iadd, 1) := by decide +kernel
theorem dL_law_585 : decode cL_law 585 = .ok (.iaload, 1) := by decide +kernel
theorem dL_law_586 : decode cL_law 586 = .ok (.invokevirtual 145, 3) := by decide +kernel
theorem dL_law_589 : decode cL_law 589 = .ok (.istore 6, 2) := by decide +kernel
theorem dL_law_591 : decode cL_law 591 = .ok (.aload_n 2, 1) := by decide +kernel
theorem dL_law_592 : decode cL_law 592 = .ok (.invokevirtual 125, 3) := by decide +kernel
theorem dL_law_595 : decode cL_law 595 = .ok (.iload 5, 2) := by decide +kernel
theorem dL_law_597 : decode cL_law 597 = .ok (.if_icmp .eq 5, 3) := by decide +kernel
theorem dL_law_600 : decode cL_law 600 = .ok (.iconst 0, 1) := by decide +kernel
theorem dL_law_601 : decode cL_law 601 = .ok (.ireturn, 1) := by decide +kernel
theorem dL_law_602 : decode cL_law 602 = .ok (.iload 5, 2) := by decide +kernel
theorem dL_law_604 : decode cL_law 604 = .ok (.ifCond .ne 15, 3) := by decide +kernel
theorem dL_law_607 : decode cL_law 607 = .ok (.aload_n 3, 1) := by decide +kernel
theorem dL_law_608 : decode cL_law 608 = .ok (.iconst 0, 1) := by decide +kernel
theorem dL_law_609 : decode cL_law 609 = .ok (.laload, 1) := by decide +kernel
theorem dL_law_610 : decode cL_law 610 = .ok (.iload 6, 2) := by decide +kernel
theorem dL_law_612 : decode cL_law 612 = .ok (.i2l, 1) := by decide +kernel
theorem dL_law_613 : decode cL_law 613 = .ok (.lcmp, 1) := by decide +kernel
theorem dL_law_614 : decode cL_law 614 = .ok (.ifCond .eq 5, 3) := by decide +kernel
theorem dL_law_617 : decode cL_law 617 = .ok (.iconst 0, 1) := by decide +kernel
theorem dL_law_618 : decode cL_law 618 = .ok (.ireturn, 1) := by decide +kernel
theorem dL_law_619 : decode cL_law 619 = .ok (.goto 1911, 3) := by decide +kernel
theorem dL_law_622 : decode cL_law 622 = .ok (.aload_n 1, 1) := by decide +kernel
theorem dL_law_623 : decode cL_law 623 = .ok (.aload_n 0, 1) := by decide +kernel
theorem dL_law_624 : decode cL_law 624 = .ok (.iload 4, 2) := by decide +kernel
theorem dL_law_626 : decode cL_law 626 = .ok (.iconst 1, 1) := by decide +kernel
theorem dL_law_627 : decode cL_law 627 = .ok (.iadd, 1) := by decide +kernel
theorem dL_law_628 : decode cL_law 628 = .ok (.iaload, 1) := by decide +kernel
theorem dL_law_629 : decode cL_law 629 = .ok (.aload_n 0, 1) := by decide +kernel
theorem dL_law_630 : decode cL_law 630 = .ok (.iload 4, 2) := by decide +kernel
theorem dL_law_632 : decode cL_law 632 = .ok (.iconst 2, 1) := by decide +kernel
theorem dL_law_633 : decode cL_law 633 = .ok (.iadd, 1) := by decide +kernel
theorem dL_law_634 : decode cL_law 634 = .ok (.iaload, 1) := by decide +kernel
theorem dL_law_635 : decode cL_law 635 = .ok (.aload_n 0, 1) := by decide +kernel
theorem dL_law_636 : decode cL_law 636 = .ok (.iload 4, 2) := by decide +kernel
theorem dL_law_638 : decode cL_law 638 = .ok (.iconst 3, 1) := by decide +kernel
theorem dL_law_639 : decode cL_law 639 = .ok (.iadd, 1) := by decide +kernel
theorem dL_law_640 : decode cL_law 640 = .ok (.iaload, 1) := by decide +kernel
theorem dL_law_641 : decode cL_law 641 = .ok (.aload_n 3, 1) := by decide +kernel
theorem dL_law_642 : decode cL_law 642 = .ok (.invokestatic 146, 3) := by decide +kernel
theorem dL_law_645 : decode cL_law 645 = .ok (.istore 5, 2) := by decide +kernel
theorem dL_law_647 : decode cL_law 647 = .ok (.aload_n 2, 1) := by decide +kernel
theorem dL_law_648 : decode cL_law 648 = .ok (.aload_n 0, 1) := by decide +kernel
theorem dL_law_649 : decode cL_law 649 = .ok (.iload 4, 2) := by decide +kernel
theorem dL_law_651 : decode cL_law 651 = .ok (.iconst 1, 1) := by decide +kernel
theorem dL_law_652 : decode cL_law 652 = .ok (.iadd, 1) := by decide +kernel
theorem dL_law_653 : decode cL_law 653 = .ok (.iaload, 1) := by decide +kernel
theorem dL_law_654 : decode cL_law 654 = .ok (.aload_n 0, 1) := by decide +kernel
theorem dL_law_655 : decode cL_law 655 = .ok (.iload 4, 2) := by decide +kernel
theorem dL_law_657 : decode cL_law 657 = .ok (.iconst 2, 1) := by decide +kernel
theorem dL_law_658 : decode cL_law 658 = .ok (.iadd, 1) := by decide +kernel
theorem dL_law_659 : decode cL_law 659 = .ok (.iaload, 1) := by decide +kernel
theorem dL_law_660 : decode cL_law 660 = .ok (.aload_n 0, 1) := by decide +kernel
theorem dL_law_661 : decode cL_law 661 = .ok (.iload 4, 2) := by decide +kernel
theorem dL_law_663 : decode cL_law 663 = .ok (.iconst 3, 1) := by decide +kernel
theorem dL_law_664 : decode cL_law 664 = .ok (.iadd, 1) := by decide +kernel
theorem dL_law_665 : decode cL_law 665 = .ok (.iaload, 1) := by decide +kernel
theorem dL_law_666 : decode cL_law 666 = .ok (.invokevirtual 149, 3) := by decide +kernel
theorem dL_law_669 : decode cL_law 669 = .ok (.istore 6, 2) := by decide +kernel
theorem dL_law_671 : decode cL_law 671 = .ok (.aload_n 2, 1) := by decide +kernel
theorem dL_law_672 : decode cL_law 672 = .ok (.invokevirtual 125, 3) := by decide +kernel
theorem dL_law_675 : decode cL_law 675 = .ok (.iload 5, 2) := by decide +kernel
theorem dL_law_677 : decode cL_law 677 = .ok (.if_icmp .eq 5, 3) := by decide +kernel
theorem dL_law_680 : decode cL_law 680 = .ok (.iconst 0, 1) := by decide +kernel
theorem dL_law_681 : decode cL_law 681 = .ok (.ireturn, 1) := by decide +kernel
theorem dL_law_682 : decode cL_law 682 = .ok (.iload 5, 2) := by decide +kernel
theorem dL_law_684 : decode cL_law 684 = .ok (.ifCond .ne 15, 3) := by decide +kernel
theorem dL_law_687 : decode cL_law 687 = .ok (.aload_n 3, 1) := by decide +kernel
theorem dL_law_688 : decode cL_law 688 = .ok (.iconst 0, 1) := by decide +kernel
theorem dL_law_689 : decode cL_law 689 = .ok (.laload, 1) := by decide +kernel
theorem dL_law_690 : decode cL_law 690 = .ok (.iload 6, 2) := by decide +kernel
theorem dL_law_692 : decode cL_law 692 = .ok (.i2l, 1) := by decide +kernel
theorem dL_law_693 : decode cL_law 693 = .ok (.lcmp, 1) := by decide +kernel
theorem dL_law_694 : decode cL_law 694 = .ok (.ifCond .eq 5, 3) := by decide +kernel
theorem dL_law_697 : decode cL_law 697 = .ok (.iconst 0, 1) := by decide +kernel
theorem dL_law_698 : decode cL_law 698 = .ok (.ireturn, 1) := by decide +kernel
theorem dL_law_699 : decode cL_law 699 = .ok (.goto 1831, 3) := by decide +kernel
theorem dL_law_702 : decode cL_law 702 = .ok (.aload_n 1, 1) := by decide +kernel
theorem dL_law_703 : decode cL_law 703 = .ok (.aload_n 0, 1) := by decide +kernel
theorem dL_law_704 : decode cL_law 704 = .ok (.iload 4, 2) := by decide +kernel
theorem dL_law_706 : decode cL_law 706 = .ok (.iconst 1, 1) := by decide +kernel
theorem dL_law_707 : decode cL_law 707 = .ok (.iadd, 1) := by decide +kernel
theorem dL_law_708 : decode cL_law 708 = .ok (.iaload, 1) := by decide +kernel
theorem dL_law_709 : decode cL_law 709 = .ok (.aload_n 0, 1) := by decide +kernel
theorem dL_law_710 : decode cL_law 710 = .ok (.iload 4, 2) := by decide +kernel
theorem dL_law_712 : decode cL_law 712 = .ok (.iconst 2, 1) := by decide +kernel
theorem dL_law_713 : decode cL_law 713 = .ok (.iadd, 1) := by decide +kernel
theorem dL_law_714 : decode cL_law 714 = .ok (.iaload, 1) := by decide +kernel
theorem dL_law_715 : decode cL_law 715 = .ok (.aload_n 3, 1) := by decide +kernel
theorem dL_law_716 : decode cL_law 716 = .ok (.invokestatic 150, 3) := by decide +kernel
theorem dL_law_719 : decode cL_law 719 = .ok (.istore 5, 2) := by decide +kernel
theorem dL_law_721 : decode cL_law 721 = .ok (.aload_n 2, 1) := by decide +kernel
theorem dL_law_722 : decode cL_law 722 = .ok (.aload_n 0, 1) := by decide +kernel
theorem dL_law_723 : decode cL_law 723 = .ok (.iload 4, 2) := by decide +kernel
theorem dL_law_725 : decode cL_law 725 = .ok (.iconst 1, 1) := by decide +kernel
theorem dL_law_726 : decode cL_law 726 = .ok (.iadd, 1) := by decide +kernel
theorem dL_law_727 : decode cL_law 727 = .ok (.iaload, 1) := by decide +kernel
theorem dL_law_728 : decode cL_law 728 = .ok (.aload_n 0, 1) := by decide +kernel
theorem dL_law_729 : decode cL_law 729 = .ok (.iload 4, 2) := by decide +kernel
theorem dL_law_731 : decode cL_law 731 = .ok (.iconst 2, 1) := by decide +kernel
theorem dL_law_732 : decode cL_law 732 = .ok (.iadd, 1) := by decide +kernel
theorem dL_law_733 : decode cL_law 733 = .ok (.iaload, 1) := by decide +kernel
theorem dL_law_734 : decode cL_law 734 = .ok (.invokevirtual 152, 3) := by decide +kernel
theorem dL_law_737 : decode cL_law 737 = .ok (.istore 6, 2) := by decide +kernel
theorem dL_law_739 : decode cL_law 739 = .ok (.aload_n 2, 1) := by decide +kernel
theorem dL_law_740 : decode cL_law 740 = .ok (.invokevirtual 125, 3) := by decide +kernel
theorem dL_law_743 : decode cL_law 743 = .ok (.iload 5, 2) := by decide +kernel
theorem dL_law_745 : decode cL_law 745 = .ok (.if_icmp .eq 5, 3) := by decide +kernel
theorem dL_law_748 : decode cL_law 748 = .ok (.iconst 0, 1) := by decide +kernel
theorem dL_law_749 : decode cL_law 749 = .ok (.ireturn, 1) := by decide +kernel
theorem dL_law_750 : decode cL_law 750 = .ok (.iload 5, 2) := by decide +kernel
theorem dL_law_752 : decode cL_law 752 = .ok (.ifCond .ne 15, 3) := by decide +kernel
theorem dL_law_755 : decode cL_law 755 = .ok (.aload_n 3, 1) := by decide +kernel
theorem dL_law_756 : decode cL_law 756 = .ok (.iconst 0, 1) := by decide +kernel
theorem dL_law_757 : decode cL_law 757 = .ok (.laload, 1) := by decide +kernel
theorem dL_law_758 : decode cL_law 758 = .ok (.iload 6, 2) := by decide +kernel
theorem dL_law_760 : decode cL_law 760 = .ok (.i2l, 1) := by decide +kernel
theorem dL_law_761 : decode cL_law 761 = .ok (.lcmp, 1) := by decide +kernel
theorem dL_law_762 : decode cL_law 762 = .ok (.ifCond .eq 5, 3) := by decide +kernel
theorem dL_law_765 : decode cL_law 765 = .ok (.iconst 0, 1) := by decide +kernel
theorem dL_law_766 : decode cL_law 766 = .ok (.ireturn, 1) := by decide +kernel
theorem dL_law_767 : decode cL_law 767 = .ok (.goto 1763, 3) := by decide +kernel
theorem dL_law_770 : decode cL_law 770 = .ok (.aload_n 1, 1) := by decide +kernel
theorem dL_law_771 : decode cL_law 771 = .ok (.aload_n 0, 1) := by decide +kernel
theorem dL_law_772 : decode cL_law 772 = .ok (.iload 4, 2) := by decide +kernel
theorem dL_law_774 : decode cL_law 774 = .ok (.iconst 1, 1) := by decide +kernel
theorem dL_law_775 : decode cL_law 775 = .ok (.iadd, 1) := by decide +kernel
theorem dL_law_776 : decode cL_law 776 = .ok (.iaload, 1) := by decide +kernel
theorem dL_law_777 : decode cL_law 777 = .ok (.aload_n 0, 1) := by decide +kernel
theorem dL_law_778 : decode cL_law 778 = .ok (.iload 4, 2) := by decide +kernel
theorem dL_law_780 : decode cL_law 780 = .ok (.iconst 2, 1) := by decide +kernel
theorem dL_law_781 : decode cL_law 781 = .ok (.iadd, 1) := by decide +kernel
theorem dL_law_782 : decode cL_law 782 = .ok (.iaload, 1) := by decide +kernel
theorem dL_law_783 : decode cL_law 783 = .ok (.aload_n 3, 1) := by decide +kernel
theorem dL_law_784 : decode cL_law 784 = .ok (.invokestatic 153, 3) := by decide +kernel
theorem dL_law_787 : decode cL_law 787 = .ok (.istore 5, 2) := by decide +kernel
theorem dL_law_789 : decode cL_law 789 = .ok (.aload_n 2, 1) := by decide +kernel
theorem dL_law_790 : decode cL_law 790 = .ok (.aload_n 0, 1) := by decide +kernel
theorem dL_law_791 : decode cL_law 791 = .ok (.iload 4, 2) := by decide +kernel
theorem dL_law_793 : decode cL_law 793 = .ok (.iconst 1, 1) := by decide +kernel
theorem dL_law_794 : decode cL_law 794 = .ok (.iadd, 1) := by decide +kernel
theorem dL_law_795 : decode cL_law 795 = .ok (.iaload, 1) := by decide +kernel
theorem dL_law_796 : decode cL_law 796 = .ok (.aload_n 0, 1) := by decide +kernel
theorem dL_law_797 : decode cL_law 797 = .ok (.iload 4, 2) := by decide +kernel
theorem dL_law_799 : decode cL_law 799 = .ok (.iconst 2, 1) := by decide +kernel
theorem dL_law_800 : decode cL_law 800 = .ok (.iadd, 1) := by decide +kernel
theorem dL_law_801 : decode cL_law 801 = .ok (.iaload, 1) := by decide +kernel
theorem dL_law_802 : decode cL_law 802 = .ok (.invokevirtual 155, 3) := by decide +kernel
theorem dL_law_805 : decode cL_law 805 = .ok (.istore 6, 2) := by decide +kernel
theorem dL_law_807 : decode cL_law 807 = .ok (.aload_n 2, 1) := by decide +kernel
theorem dL_law_808 : decode cL_law 808 = .ok (.invokevirtual 125, 3) := by decide +kernel
theorem dL_law_811 : decode cL_law 811 = .ok (.iload 5, 2) := by decide +kernel
theorem dL_law_813 : decode cL_law 813 = .ok (.if_icmp .eq 5, 3) := by decide +kernel
theorem dL_law_816 : decode cL_law 816 = .ok (.iconst 0, 1) := by decide +kernel
theorem dL_law_817 : decode cL_law 817 = .ok (.ireturn, 1) := by decide +kernel
theorem dL_law_818 : decode cL_law 818 = .ok (.iload 5, 2) := by decide +kernel
theorem dL_law_820 : decode cL_law 820 = .ok (.ifCond .ne 15, 3) := by decide +kernel
theorem dL_law_823 : decode cL_law 823 = .ok (.aload_n 3, 1) := by decide +kernel
theorem dL_law_824 : decode cL_law 824 = .ok (.iconst 0, 1) := by decide +kernel
theorem dL_law_825 : decode cL_law 825 = .ok (.laload, 1) := by decide +kernel
theorem dL_law_826 : decode cL_law 826 = .ok (.iload 6, 2) := by decide +kernel
theorem dL_law_828 : decode cL_law 828 = .ok (.i2l, 1) := by decide +kernel
theorem dL_law_829 : decode cL_law 829 = .ok (.lcmp, 1) := by decide +kernel
theorem dL_law_830 : decode cL_law 830 = .ok (.ifCond .eq 5, 3) := by decide +kernel
theorem dL_law_833 : decode cL_law 833 = .ok (.iconst 0, 1) := by decide +kernel
theorem dL_law_834 : decode cL_law 834 = .ok (.ireturn, 1) := by decide +kernel
theorem dL_law_835 : decode cL_law 835 = .ok (.goto 1695, 3) := by decide +kernel
theorem dL_law_838 : decode cL_law 838 = .ok (.aload_n 1, 1) := by decide +kernel
theorem dL_law_839 : decode cL_law 839 = .ok (.aload_n 0, 1) := by decide +kernel
theorem dL_law_840 : decode cL_law 840 = .ok (.iload 4, 2) := by decide +kernel
theorem dL_law_842 : decode cL_law 842 = .ok (.iconst 1, 1) := by decide +kernel
theorem dL_law_843 : decode cL_law 843 = .ok (.iadd, 1) := by decide +kernel
theorem dL_law_844 : decode cL_law 844 = .ok (.iaload, 1) := by decide +kernel
theorem dL_law_845 : decode cL_law 845 = .ok (.aload_n 3, 1) := by decide +kernel
theorem dL_law_846 : decode cL_law 846 = .ok (.invokestatic 156, 3) := by decide +kernel
theorem dL_law_849 : decode cL_law 849 = .ok (.istore 5, 2) := by decide +kernel
theorem dL_law_851 : decode cL_law 851 = .ok (.aload_n 2, 1) := by decide +kernel
theorem dL_law_852 : decode cL_law 852 = .ok (.aload_n 0, 1) := by decide +kernel
theorem dL_law_853 : decode cL_law 853 = .ok (.iload 4, 2) := by decide +kernel
theorem dL_law_855 : decode cL_law 855 = .ok (.iconst 1, 1) := by decide +kernel
theorem dL_law_856 : decode cL_law 856 = .ok (.iadd, 1) := by decide +kernel
theorem dL_law_857 : decode cL_law 857 = .ok (.iaload, 1) := by decide +kernel
theorem dL_law_858 : decode cL_law 858 = .ok (.invokevirtual 158, 3) := by decide +kernel
theorem dL_law_861 : decode cL_law 861 = .ok (.istore 6, 2) := by decide +kernel
theorem dL_law_863 : decode cL_law 863 = .ok (.aload_n 2, 1) := by decide +kernel
theorem dL_law_864 : decode cL_law 864 = .ok (.invokevirtual 125, 3) := by decide +kernel
theorem dL_law_867 : decode cL_law 867 = .ok (.iload 5, 2) := by decide +kernel
theorem dL_law_869 : decode cL_law 869 = .ok (.if_icmp .eq 5, 3) := by decide +kernel
theorem dL_law_872 : decode cL_law 872 = .ok (.iconst 0, 1) := by decide +kernel
theorem dL_law_873 : decode cL_law 873 = .ok (.ireturn, 1) := by decide +kernel
theorem dL_law_874 : decode cL_law 874 = .ok (.iload 5, 2) := by decide +kernel
theorem dL_law_876 : decode cL_law 876 = .ok (.ifCond .ne 15, 3) := by decide +kernel
theorem dL_law_879 : decode cL_law 879 = .ok (.aload_n 3, 1) := by decide +kernel
theorem dL_law_880 : decode cL_law 880 = .ok (.iconst 0, 1) := by decide +kernel
theorem dL_law_881 : decode cL_law 881 = .ok (.laload, 1) := by decide +kernel
theorem dL_law_882 : decode cL_law 882 = .ok (.iload 6, 2) := by decide +kernel
theorem dL_law_884 : decode cL_law 884 = .ok (.i2l, 1) := by decide +kernel
theorem dL_law_885 : decode cL_law 885 = .ok (.lcmp, 1) := by decide +kernel
theorem dL_law_886 : decode cL_law 886 = .ok (.ifCond .eq 5, 3) := by decide +kernel
theorem dL_law_889 : decode cL_law 889 = .ok (.iconst 0, 1) := by decide +kernel
theorem dL_law_890 : decode cL_law 890 = .ok (.ireturn, 1) := by decide +kernel
theorem dL_law_891 : decode cL_law 891 = .ok (.goto 1639, 3) := by decide +kernel
theorem dL_law_894 : decode cL_law 894 = .ok (.aload_n 1, 1) := by decide +kernel
theorem dL_law_895 : decode cL_law 895 = .ok (.aload_n 0, 1) := by decide +kernel
theorem dL_law_896 : decode cL_law 896 = .ok (.iload 4, 2) := by decide +kernel
theorem dL_law_898 : decode cL_law 898 = .ok (.iconst 1, 1) := by decide +kernel
theorem dL_law_899 : decode cL_law 899 = .ok (.iadd, 1) := by decide +kernel
theorem dL_law_900 : decode cL_law 900 = .ok (.iaload, 1) := by decide +kernel
theorem dL_law_901 : decode cL_law 901 = .ok (.aload_n 0, 1) := by decide +kernel
theorem dL_law_902 : decode cL_law 902 = .ok (.iload 4, 2) := by decide +kernel
theorem dL_law_904 : decode cL_law 904 = .ok (.iconst 2, 1) := by decide +kernel
theorem dL_law_905 : decode cL_law 905 = .ok (.iadd, 1) := by decide +kernel
theorem dL_law_906 : decode cL_law 906 = .ok (.iaload, 1) := by decide +kernel
theorem dL_law_907 : decode cL_law 907 = .ok (.aload_n 3, 1) := by decide +kernel
theorem dL_law_908 : decode cL_law 908 = .ok (.invokestatic 159, 3) := by decide +kernel
theorem dL_law_911 : decode cL_law 911 = .ok (.istore 5, 2) := by decide +kernel
theorem dL_law_913 : decode cL_law 913 = .ok (.aload_n 2, 1) := by decide +kernel
theorem dL_law_914 : decode cL_law 914 = .ok (.aload_n 0, 1) := by decide +kernel
theorem dL_law_915 : decode cL_law 915 = .ok (.iload 4, 2) := by decide +kernel
theorem dL_law_917 : decode cL_law 917 = .ok (.iconst 1, 1) := by decide +kernel
theorem dL_law_918 : decode cL_law 918 = .ok (.iadd, 1) := by decide +kernel
theorem dL_law_919 : decode cL_law 919 = .ok (.iaload, 1) := by decide +kernel
theorem dL_law_920 : decode cL_law 920 = .ok (.aload_n 0, 1) := by decide +kernel
theorem dL_law_921 : decode cL_law 921 = .ok (.iload 4, 2) := by decide +kernel
theorem dL_law_923 : decode cL_law 923 = .ok (.iconst 2, 1) := by decide +kernel
theorem dL_law_924 : decode cL_law 924 = .ok (.iadd, 1) := by decide +kernel
theorem dL_law_925 : decode cL_law 925 = .ok (.iaload, 1) := by decide +kernel
theorem dL_law_926 : decode cL_law 926 = .ok (.invokevirtual 161, 3) := by decide +kernel
theorem dL_law_929 : decode cL_law 929 = .ok (.istore 6, 2) := by decide +kernel
theorem dL_law_931 : decode cL_law 931 = .ok (.aload_n 2, 1) := by decide +kernel
theorem dL_law_932 : decode cL_law 932 = .ok (.invokevirtual 125, 3) := by decide +kernel
theorem dL_law_935 : decode cL_law 935 = .ok (.iload 5, 2) := by decide +kernel
theorem dL_law_937 : decode cL_law 937 = .ok (.if_icmp .eq 5, 3) := by decide +kernel
theorem dL_law_940 : decode cL_law 940 = .ok (.iconst 0, 1) := by decide +kernel
theorem dL_law_941 : decode cL_law 941 = .ok (.ireturn, 1) := by decide +kernel
theorem dL_law_942 : decode cL_law 942 = .ok (.iload 5, 2) := by decide +kernel
theorem dL_law_944 : decode cL_law 944 = .ok (.ifCond .ne 15, 3) := by decide +kernel
theorem dL_law_947 : decode cL_law 947 = .ok (.aload_n 3, 1) := by decide +kernel
theorem dL_law_948 : decode cL_law 948 = .ok (.iconst 0, 1) := by decide +kernel
theorem dL_law_949 : decode cL_law 949 = .ok (.laload, 1) := by decide +kernel
theorem dL_law_950 : decode cL_law 950 = .ok (.iload 6, 2) := by decide +kernel
theorem dL_law_952 : decode cL_law 952 = .ok (.i2l, 1) := by decide +kernel
theorem dL_law_953 : decode cL_law 953 = .ok (.lcmp, 1) := by decide +kernel
theorem dL_law_954 : decode cL_law 954 = .ok (.ifCond .eq 5, 3) := by decide +kernel
theorem dL_law_957 : decode cL_law 957 = .ok (.iconst 0, 1) := by decide +kernel
theorem dL_law_958 : decode cL_law 958 = .ok (.ireturn, 1) := by decide +kernel
theorem dL_law_959 : decode cL_law 959 = .ok (.goto 1571, 3) := by decide +kernel
theorem dL_law_962 : decode cL_law 962 = .ok (.aload_n 1, 1) := by decide +kernel
theorem dL_law_963 : decode cL_law 963 = .ok (.aload_n 0, 1) := by decide +kernel
theorem dL_law_964 : decode cL_law 964 = .ok (.iload 4, 2) := by decide +kernel
theorem dL_law_966 : decode cL_law 966 = .ok (.iconst 1, 1) := by decide +kernel
theorem dL_law_967 : decode cL_law 967 = .ok (.iadd, 1) := by decide +kernel
theorem dL_law_968 : decode cL_law 968 = .ok (.iaload, 1) := by decide +kernel
theorem dL_law_969 : decode cL_law 969 = .ok (.aload_n 0, 1) := by decide +kernel
theorem dL_law_970 : decode cL_law 970 = .ok (.iload 4, 2) := by decide +kernel
theorem dL_law_972 : decode cL_law 972 = .ok (.iconst 2, 1) := by decide +kernel
theorem dL_law_973 : decode cL_law 973 = .ok (.iadd, 1) := by decide +kernel
theorem dL_law_974 : decode cL_law 974 = .ok (.iaload, 1) := by decide +kernel
theorem dL_law_975 : decode cL_law 975 = .ok (.aload_n 3, 1) := by decide +kernel
theorem dL_law_976 : decode cL_law 976 = .ok (.invokestatic 162, 3) := by decide +kernel
theorem dL_law_979 : decode cL_law 979 = .ok (.istore 5, 2) := by decide +kernel
theorem dL_law_981 : decode cL_law 981 = .ok (.aload_n 2, 1) := by decide +kernel
theorem dL_law_982 : decode cL_law 982 = .ok (.aload_n 0, 1) := by decide +kernel
theorem dL_law_983 : decode cL_law 983 = .ok (.iload 4, 2) := by decide +kernel
theorem dL_law_985 : decode cL_law 985 = .ok (.iconst 1, 1) := by decide +kernel
theorem dL_law_986 : decode cL_law 986 = .ok (.iadd, 1) := by decide +kernel
theorem dL_law_987 : decode cL_law 987 = .ok (.iaload, 1) := by decide +kernel
theorem dL_law_988 : decode cL_law 988 = .ok (.aload_n 0, 1) := by decide +kernel
theorem dL_law_989 : decode cL_law 989 = .ok (.iload 4, 2) := by decide +kernel
theorem dL_law_991 : decode cL_law 991 = .ok (.iconst 2, 1) := by decide +kernel
theorem dL_law_992 : decode cL_law 992 = .ok (.iadd, 1) := by decide +kernel
theorem dL_law_993 : decode cL_law 993 = .ok (.iaload, 1) := by decide +kernel
theorem dL_law_994 : decode cL_law 994 = .ok (.invokevirtual 164, 3) := by decide +kernel
theorem dL_law_997 : decode cL_law 997 = .ok (.istore 6, 2) := by decide +kernel
theorem dL_law_999 : decode cL_law 999 = .ok (.aload_n 2, 1) := by decide +kernel
theorem dL_law_1000 : decode cL_law 1000 = .ok (.invokevirtual 125, 3) := by decide +kernel
theorem dL_law_1003 : decode cL_law 1003 = .ok (.iload 5, 2) := by decide +kernel
theorem dL_law_1005 : decode cL_law 1005 = .ok (.if_icmp .eq 5, 3) := by decide +kernel
theorem dL_law_1008 : decode cL_law 1008 = .ok (.iconst 0, 1) := by decide +kernel
theorem dL_law_1009 : decode cL_law 1009 = .ok (.ireturn, 1) := by decide +kernel
theorem dL_law_1010 : decode cL_law 1010 = .ok (.iload 5, 2) := by decide +kernel
theorem dL_law_1012 : decode cL_law 1012 = .ok (.ifCond .ne 15, 3) := by decide +kernel
theorem dL_law_1015 : decode cL_law 1015 = .ok (.aload_n 3, 1) := by decide +kernel
theorem dL_law_1016 : decode cL_law 1016 = .ok (.iconst 0, 1) := by decide +kernel
theorem dL_law_1017 : decode cL_law 1017 = .ok (.laload, 1) := by decide +kernel
theorem dL_law_1018 : decode cL_law 1018 = .ok (.iload 6, 2) := by decide +kernel
theorem dL_law_1020 : decode cL_law 1020 = .ok (.i2l, 1) := by decide +kernel
theorem dL_law_1021 : decode cL_law 1021 = .ok (.lcmp, 1) := by decide +kernel
theorem dL_law_1022 : decode cL_law 1022 = .ok (.ifCond .eq 5, 3) := by decide +kernel
theorem dL_law_1025 : decode cL_law 1025 = .ok (.iconst 0, 1) := by decide +kernel
theorem dL_law_1026 : decode cL_law 1026 = .ok (.ireturn, 1) := by decide +kernel
theorem dL_law_1027 : decode cL_law 1027 = .ok (.goto 1503, 3) := by decide +kernel
theorem dL_law_1030 : decode cL_law 1030 = .ok (.aload_n 1, 1) := by decide +kernel
theorem dL_law_1031 : decode cL_law 1031 = .ok (.aload_n 0, 1) := by decide +kernel
theorem dL_law_1032 : decode cL_law 1032 = .ok (.iload 4, 2) := by decide +kernel
theorem dL_law_1034 : decode cL_law 1034 = .ok (.iconst 1, 1) := by decide +kernel
theorem dL_law_1035 : decode cL_law 1035 = .ok (.iadd, 1) := by decide +kernel
theorem dL_law_1036 : decode cL_law 1036 = .ok (.iaload, 1) := by decide +kernel
theorem dL_law_1037 : decode cL_law 1037 = .ok (.aload_n 0, 1) := by decide +kernel
theorem dL_law_1038 : decode cL_law 1038 = .ok (.iload 4, 2) := by decide +kernel
theorem dL_law_1040 : decode cL_law 1040 = .ok (.iconst 2, 1) := by decide +kernel
theorem dL_law_1041 : decode cL_law 1041 = .ok (.iadd, 1) := by decide +kernel
theorem dL_law_1042 : decode cL_law 1042 = .ok (.iaload, 1) := by decide +kernel
theorem dL_law_1043 : decode cL_law 1043 = .ok (.aload_n 3, 1) := by decide +kernel
theorem dL_law_1044 : decode cL_law 1044 = .ok (.invokestatic 165, 3) := by decide +kernel
theorem dL_law_1047 : decode cL_law 1047 = .ok (.istore 5, 2) := by decide +kernel
theorem dL_law_1049 : decode cL_law 1049 = .ok (.aload_n 2, 1) := by decide +kernel
theorem dL_law_1050 : decode cL_law 1050 = .ok (.aload_n 0, 1) := by decide +kernel
theorem dL_law_1051 : decode cL_law 1051 = .ok (.iload 4, 2) := by decide +kernel
theorem dL_law_1053 : decode cL_law 1053 = .ok (.iconst 1, 1) := by decide +kernel
theorem dL_law_1054 : decode cL_law 1054 = .ok (.iadd, 1) := by decide +kernel
theorem dL_law_1055 : decode cL_law 1055 = .ok (.iaload, 1) := by decide +kernel
theorem dL_law_1056 : decode cL_law 1056 = .ok (.aload_n 0, 1) := by decide +kernel
theorem dL_law_1057 : decode cL_law 1057 = .ok (.iload 4, 2) := by decide +kernel
theorem dL_law_1059 : decode cL_law 1059 = .ok (.iconst 2, 1) := by decide +kernel
theorem dL_law_1060 : decode cL_law 1060 = .ok (.iadd, 1) := by decide +kernel
theorem dL_law_1061 : decode cL_law 1061 = .ok (.iaload, 1) := by decide +kernel
theorem dL_law_1062 : decode cL_law 1062 = .ok (.invokevirtual 167, 3) := by decide +kernel
theorem dL_law_1065 : decode cL_law 1065 = .ok (.istore 6, 2) := by decide +kernel
theorem dL_law_1067 : decode cL_law 1067 = .ok (.aload_n 2, 1) := by decide +kernel
theorem dL_law_1068 : decode cL_law 1068 = .ok (.invokevirtual 125, 3) := by decide +kernel
theorem dL_law_1071 : decode cL_law 1071 = .ok (.iload 5, 2) := by decide +kernel
theorem dL_law_1073 : decode cL_law 1073 = .ok (.if_icmp .eq 5, 3) := by decide +kernel
theorem dL_law_1076 : decode cL_law 1076 = .ok (.iconst 0, 1) := by decide +kernel
theorem dL_law_1077 : decode cL_law 1077 = .ok (.ireturn, 1) := by decide +kernel
theorem dL_law_1078 : decode cL_law 1078 = .ok (.iload 5, 2) := by decide +kernel
theorem dL_law_1080 : decode cL_law 1080 = .ok (.ifCond .ne 15, 3) := by decide +kernel
theorem dL_law_1083 : decode cL_law 1083 = .ok (.aload_n 3, 1) := by decide +kernel
theorem dL_law_1084 : decode cL_law 1084 = .ok (.iconst 0, 1) := by decide +kernel
theorem dL_law_1085 : decode cL_law 1085 = .ok (.laload, 1) := by decide +kernel
theorem dL_law_1086 : decode cL_law 1086 = .ok (.iload 6, 2) := by decide +kernel
theorem dL_law_1088 : decode cL_law 1088 = .ok (.i2l, 1) := by decide +kernel
theorem dL_law_1089 : decode cL_law 1089 = .ok (.lcmp, 1) := by decide +kernel
theorem dL_law_1090 : decode cL_law 1090 = .ok (.ifCond .eq 5, 3) := by decide +kernel
theorem dL_law_1093 : decode cL_law 1093 = .ok (.iconst 0, 1) := by decide +kernel
theorem dL_law_1094 : decode cL_law 1094 = .ok (.ireturn, 1) := by decide +kernel
theorem dL_law_1095 : decode cL_law 1095 = .ok (.goto 1435, 3) := by decide +kernel
theorem dL_law_1098 : decode cL_law 1098 = .ok (.aload_n 1, 1) := by decide +kernel
theorem dL_law_1099 : decode cL_law 1099 = .ok (.aload_n 0, 1) := by decide +kernel
theorem dL_law_1100 : decode cL_law 1100 = .ok (.iload 4, 2) := by decide +kernel
theorem dL_law_1102 : decode cL_law 1102 = .ok (.iconst 1, 1) := by decide +kernel
theorem dL_law_1103 : decode cL_law 1103 = .ok (.iadd, 1) := by decide +kernel
theorem dL_law_1104 : decode cL_law 1104 = .ok (.iaload, 1) := by decide +kernel
theorem dL_law_1105 : decode cL_law 1105 = .ok (.aload_n 0, 1) := by decide +kernel
theorem dL_law_1106 : decode cL_law 1106 = .ok (.iload 4, 2) := by decide +kernel
theorem dL_law_1108 : decode cL_law 1108 = .ok (.iconst 2, 1) := by decide +kernel
theorem dL_law_1109 : decode cL_law 1109 = .ok (.iadd, 1) := by decide +kernel
theorem dL_law_1110 : decode cL_law 1110 = .ok (.iaload, 1) := by decide +kernel
theorem dL_law_1111 : decode cL_law 1111 = .ok (.aload_n 3, 1) := by decide +kernel
theorem dL_law_1112 : decode cL_law 1112 = .ok (.invokestatic 168, 3) := by decide +kernel
theorem dL_law_1115 : decode cL_law 1115 = .ok (.istore 5, 2) := by decide +kernel
theorem dL_law_1117 : decode cL_law 1117 = .ok (.aload_n 2, 1) := by decide +kernel
theorem dL_law_1118 : decode cL_law 1118 = .ok (.aload_n 0, 1) := by decide +kernel
theorem dL_law_1119 : decode cL_law 1119 = .ok (.iload 4, 2) := by decide +kernel
theorem dL_law_1121 : decode cL_law 1121 = .ok (.iconst 1, 1) := by decide +kernel
theorem dL_law_1122 : decode cL_law 1122 = .ok (.iadd, 1) := by decide +kernel
theorem dL_law_1123 : decode cL_law 1123 = .ok (.iaload, 1) := by decide +kernel
theorem dL_law_1124 : decode cL_law 1124 = .ok (.aload_n 0, 1) := by decide +kernel
theorem dL_law_1125 : decode cL_law 1125 = .ok (.iload 4, 2) := by decide +kernel
theorem dL_law_1127 : decode cL_law 1127 = .ok (.iconst 2, 1) := by decide +kernel
theorem dL_law_1128 : decode cL_law 1128 = .ok (.iadd, 1) := by decide +kernel
theorem dL_law_1129 : decode cL_law 1129 = .ok (.iaload, 1) := by decide +kernel
theorem dL_law_1130 : decode cL_law 1130 = .ok (.invokevirtual 170, 3) := by decide +kernel
theorem dL_law_1133 : decode cL_law 1133 = .ok (.istore 6, 2) := by decide +kernel
theorem dL_law_1135 : decode cL_law 1135 = .ok (.aload_n 2, 1) := by decide +kernel
theorem dL_law_1136 : decode cL_law 1136 = .ok (.invokevirtual 125, 3) := by decide +kernel
theorem dL_law_1139 : decode cL_law 1139 = .ok (.iload 5, 2) := by decide +kernel
theorem dL_law_1141 : decode cL_law 1141 = .ok (.if_icmp .eq 5, 3) := by decide +kernel
theorem dL_law_1144 : decode cL_law 1144 = .ok (.iconst 0, 1) := by decide +kernel
theorem dL_law_1145 : decode cL_law 1145 = .ok (.ireturn, 1) := by decide +kernel
theorem dL_law_1146 : decode cL_law 1146 = .ok (.iload 5, 2) := by decide +kernel
theorem dL_law_1148 : decode cL_law 1148 = .ok (.ifCond .ne 15, 3) := by decide +kernel
theorem dL_law_1151 : decode cL_law 1151 = .ok (.aload_n 3, 1) := by decide +kernel
theorem dL_law_1152 : decode cL_law 1152 = .ok (.iconst 0, 1) := by decide +kernel
theorem dL_law_1153 : decode cL_law 1153 = .ok (.laload, 1) := by decide +kernel
theorem dL_law_1154 : decode cL_law 1154 = .ok (.iload 6, 2) := by decide +kernel
theorem dL_law_1156 : decode cL_law 1156 = .ok (.i2l, 1) := by decide +kernel
theorem dL_law_1157 : decode cL_law 1157 = .ok (.lcmp, 1) := by decide +kernel
theorem dL_law_1158 : decode cL_law 1158 = .ok (.ifCond .eq 5, 3) := by decide +kernel
theorem dL_law_1161 : decode cL_law 1161 = .ok (.iconst 0, 1) := by decide +kernel
theorem dL_law_1162 : decode cL_law 1162 = .ok (.ireturn, 1) := by decide +kernel
theorem dL_law_1163 : decode cL_law 1163 = .ok (.goto 1367, 3) := by decide +kernel
theorem dL_law_1166 : decode cL_law 1166 = .ok (.aload_n 1, 1) := by decide +kernel
theorem dL_law_1167 : decode cL_law 1167 = .ok (.aload_n 0, 1) := by decide +kernel
theorem dL_law_1168 : decode cL_law 1168 = .ok (.iload 4, 2) := by decide +kernel
theorem dL_law_1170 : decode cL_law 1170 = .ok (.iconst 1, 1) := by decide +kernel
theorem dL_law_1171 : decode cL_law 1171 = .ok (.iadd, 1) := by decide +kernel
theorem dL_law_1172 : decode cL_law 1172 = .ok (.iaload, 1) := by decide +kernel
theorem dL_law_1173 : decode cL_law 1173 = .ok (.invokevirtual 171, 3) := by decide +kernel
theorem dL_law_1176 : decode cL_law 1176 = .ok (.aload_n 2, 1) := by decide +kernel
theorem dL_law_1177 : decode cL_law 1177 = .ok (.aload_n 0, 1) := by decide +kernel
theorem dL_law_1178 : decode cL_law 1178 = .ok (.iload 4, 2) := by decide +kernel
theorem dL_law_1180 : decode cL_law 1180 = .ok (.iconst 1, 1) := by decide +kernel
theorem dL_law_1181 : decode cL_law 1181 = .ok (.iadd, 1) := by decide +kernel
theorem dL_law_1182 : decode cL_law 1182 = .ok (.iaload, 1) := by decide +kernel
theorem dL_law_1183 : decode cL_law 1183 = .ok (.invokevirtual 175, 3) := by decide +kernel
theorem dL_law_1186 : decode cL_law 1186 = .ok (.if_icmp .eq 1344, 3) := by decide +kernel
theorem dL_law_1189 : decode cL_law 1189 = .ok (.iconst 0, 1) := by decide +kernel
theorem dL_law_1190 : decode cL_law 1190 = .ok (.ireturn, 1) := by decide +kernel
theorem dL_law_1191 : decode cL_law 1191 = .ok (.aload_n 1, 1) := by decide +kernel
theorem dL_law_1192 : decode cL_law 1192 = .ok (.aload_n 0, 1) := by decide +kernel
theorem dL_law_1193 : decode cL_law 1193 = .ok (.iload 4, 2) := by decide +kernel
theorem dL_law_1195 : decode cL_law 1195 = .ok (.iconst 1, 1) := by decide +kernel
theorem dL_law_1196 : decode cL_law 1196 = .ok (.iadd, 1) := by decide +kernel
theorem dL_law_1197 : decode cL_law 1197 = .ok (.iaload, 1) := by decide +kernel
theorem dL_law_1198 : decode cL_law 1198 = .ok (.aload_n 0, 1) := by decide +kernel
theorem dL_law_1199 : decode cL_law 1199 = .ok (.iload 4, 2) := by decide +kernel
theorem dL_law_1201 : decode cL_law 1201 = .ok (.iconst 2, 1) := by decide +kernel
theorem dL_law_1202 : decode cL_law 1202 = .ok (.iadd, 1) := by decide +kernel
theorem dL_law_1203 : decode cL_law 1203 = .ok (.iaload, 1) := by decide +kernel
theorem dL_law_1204 : decode cL_law 1204 = .ok (.aload_n 3, 1) := by decide +kernel
theorem dL_law_1205 : decode cL_law 1205 = .ok (.invokestatic 176, 3) := by decide +kernel
theorem dL_law_1208 : decode cL_law 1208 = .ok (.istore 5, 2) := by decide +kernel
theorem dL_law_1210 : decode cL_law 1210 = .ok (.aload_n 2, 1) := by decide +kernel
theorem dL_law_1211 : decode cL_law 1211 = .ok (.aload_n 0, 1) := by decide +kernel
theorem dL_law_1212 : decode cL_law 1212 = .ok (.iload 4, 2) := by decide +kernel
theorem dL_law_1214 : decode cL_law 1214 = .ok (.iconst 1, 1) := by decide +kernel
theorem dL_law_1215 : decode cL_law 1215 = .ok (.iadd, 1) := by decide +kernel
theorem dL_law_1216 : decode cL_law 1216 = .ok (.iaload, 1) := by decide +kernel
theorem dL_law_1217 : decode cL_law 1217 = .ok (.aload_n 0, 1) := by decide +kernel
theorem dL_law_1218 : decode cL_law 1218 = .ok (.iload 4, 2) := by decide +kernel
theorem dL_law_1220 : decode cL_law 1220 = .ok (.iconst 2, 1) := by decide +kernel
theorem dL_law_1221 : decode cL_law 1221 = .ok (.iadd, 1) := by decide +kernel
theorem dL_law_1222 : decode cL_law 1222 = .ok (.iaload, 1) := by decide +kernel
theorem dL_law_1223 : decode cL_law 1223 = .ok (.invokevirtual 178, 3) := by decide +kernel
theorem dL_law_1226 : decode cL_law 1226 = .ok (.istore 6, 2) := by decide +kernel
theorem dL_law_1228 : decode cL_law 1228 = .ok (.aload_n 2, 1) := by decide +kernel
theorem dL_law_1229 : decode cL_law 1229 = .ok (.invokevirtual 125, 3) := by decide +kernel
theorem dL_law_1232 : decode cL_law 1232 = .ok (.iload 5, 2) := by decide +kernel
theorem dL_law_1234 : decode cL_law 1234 = .ok (.if_icmp .eq 5, 3) := by decide +kernel
theorem dL_law_1237 : decode cL_law 1237 = .ok (.iconst 0, 1) := by decide +kernel
theorem dL_law_1238 : decode cL_law 1238 = .ok (.ireturn, 1) := by decide +kernel
theorem dL_law_1239 : decode cL_law 1239 = .ok (.iload 5, 2) := by decide +kernel
theorem dL_law_1241 : decode cL_law 1241 = .ok (.ifCond .ne 15, 3) := by decide +kernel
theorem dL_law_1244 : decode cL_law 1244 = .ok (.aload_n 3, 1) := by decide +kernel
theorem dL_law_1245 : decode cL_law 1245 = .ok (.iconst 0, 1) := by decide +kernel
theorem dL_law_1246 : decode cL_law 1246 = .ok (.laload, 1) := by decide +kernel
theorem dL_law_1247 : decode cL_law 1247 = .ok (.iload 6, 2) := by decide +kernel
theorem dL_law_1249 : decode cL_law 1249 = .ok (.i2l, 1) := by decide +kernel
theorem dL_law_1250 : decode cL_law 1250 = .ok (.lcmp, 1) := by decide +kernel
theorem dL_law_1251 : decode cL_law 1251 = .ok (.ifCond .eq 5, 3) := by decide +kernel
theorem dL_law_1254 : decode cL_law 1254 = .ok (.iconst 0, 1) := by decide +kernel
theorem dL_law_1255 : decode cL_law 1255 = .ok (.ireturn, 1) := by decide +kernel
theorem dL_law_1256 : decode cL_law 1256 = .ok (.goto 1274, 3) := by decide +kernel
theorem dL_law_1259 : decode cL_law 1259 = .ok (.aload_n 1, 1) := by decide +kernel
theorem dL_law_1260 : decode cL_law 1260 = .ok (.invokevirtual 179, 3) := by decide +kernel
theorem dL_law_1263 : decode cL_law 1263 = .ok (.aload_n 2, 1) := by decide +kernel
theorem dL_law_1264 : decode cL_law 1264 = .ok (.invokevirtual 182, 3) := by decide +kernel
theorem dL_law_1267 : decode cL_law 1267 = .ok (.if_icmp .eq 1263, 3) := by decide +kernel
theorem dL_law_1270 : decode cL_law 1270 = .ok (.iconst 0, 1) := by decide +kernel
theorem dL_law_1271 : decode cL_law 1271 = .ok (.ireturn, 1) := by decide +kernel
theorem dL_law_1272 : decode cL_law 1272 = .ok (.aload_n 1, 1) := by decide +kernel
theorem dL_law_1273 : decode cL_law 1273 = .ok (.aload_n 0, 1) := by decide +kernel
theorem dL_law_1274 : decode cL_law 1274 = .ok (.iload 4, 2) := by decide +kernel
theorem dL_law_1276 : decode cL_law 1276 = .ok (.iconst 1, 1) := by decide +kernel
theorem dL_law_1277 : decode cL_law 1277 = .ok (.iadd, 1) := by decide +kernel
theorem dL_law_1278 : decode cL_law 1278 = .ok (.iaload, 1) := by decide +kernel
theorem dL_law_1279 : decode cL_law 1279 = .ok (.aload_n 3, 1) := by decide +kernel
theorem dL_law_1280 : decode cL_law 1280 = .ok (.invokestatic 183, 3) := by decide +kernel
theorem dL_law_1283 : decode cL_law 1283 = .ok (.istore 5, 2) := by decide +kernel
theorem dL_law_1285 : decode cL_law 1285 = .ok (.aload_n 2, 1) := by decide +kernel
theorem dL_law_1286 : decode cL_law 1286 = .ok (.aload_n 0, 1) := by decide +kernel
theorem dL_law_1287 : decode cL_law 1287 = .ok (.iload 4, 2) := by decide +kernel
theorem dL_law_1289 : decode cL_law 1289 = .ok (.iconst 1, 1) := by decide +kernel
theorem dL_law_1290 : decode cL_law 1290 = .ok (.iadd, 1) := by decide +kernel
theorem dL_law_1291 : decode cL_law 1291 = .ok (.iaload, 1) := by decide +kernel
theorem dL_law_1292 : decode cL_law 1292 = .ok (.invokevirtual 185, 3) := by decide +kernel
theorem dL_law_1295 : decode cL_law 1295 = .ok (.istore 6, 2) := by decide +kernel
theorem dL_law_1297 : decode cL_law 1297 = .ok (.aload_n 2, 1) := by decide +kernel
theorem dL_law_1298 : decode cL_law 1298 = .ok (.invokevirtual 125, 3) := by decide +kernel
theorem dL_law_1301 : decode cL_law 1301 = .ok (.iload 5, 2) := by decide +kernel
theorem dL_law_1303 : decode cL_law 1303 = .ok (.if_icmp .eq 5, 3) := by decide +kernel
theorem dL_law_1306 : decode cL_law 1306 = .ok (.iconst 0, 1) := by decide +kernel
theorem dL_law_1307 : decode cL_law 1307 = .ok (.ireturn, 1) := by decide +kernel
theorem dL_law_1308 : decode cL_law 1308 = .ok (.iload 5, 2) := by decide +kernel
theorem dL_law_1310 : decode cL_law 1310 = .ok (.ifCond .ne 15, 3) := by decide +kernel
theorem dL_law_1313 : decode cL_law 1313 = .ok (.aload_n 3, 1) := by decide +kernel
theorem dL_law_1314 : decode cL_law 1314 = .ok (.iconst 0, 1) := by decide +kernel
theorem dL_law_1315 : decode cL_law 1315 = .ok (.laload, 1) := by decide +kernel
theorem dL_law_1316 : decode cL_law 1316 = .ok (.iload 6, 2) := by decide +kernel
theorem dL_law_1318 : decode cL_law 1318 = .ok (.i2l, 1) := by decide +kernel
theorem dL_law_1319 : decode cL_law 1319 = .ok (.lcmp, 1) := by decide +kernel
theorem dL_law_1320 : decode cL_law 1320 = .ok (.ifCond .eq 5, 3) := by decide +kernel
theorem dL_law_1323 : decode cL_law 1323 = .ok (.iconst 0, 1) := by decide +kernel
theorem dL_law_1324 : decode cL_law 1324 = .ok (.ireturn, 1) := by decide +kernel
theorem dL_law_1325 : decode cL_law 1325 = .ok (.goto 1205, 3) := by decide +kernel
theorem dL_law_1328 : decode cL_law 1328 = .ok (.aload_n 1, 1) := by decide +kernel
theorem dL_law_1329 : decode cL_law 1329 = .ok (.aload_n 0, 1) := by decide +kernel
theorem dL_law_1330 : decode cL_law 1330 = .ok (.iload 4, 2) := by decide +kernel
theorem dL_law_1332 : decode cL_law 1332 = .ok (.iconst 1, 1) := by decide +kernel
theorem dL_law_1333 : decode cL_law 1333 = .ok (.iadd, 1) := by decide +kernel
theorem dL_law_1334 : decode cL_law 1334 = .ok (.iaload, 1) := by decide +kernel
theorem dL_law_1335 : decode cL_law 1335 = .ok (.aload_n 0, 1) := by decide +kernel
theorem dL_law_1336 : decode cL_law 1336 = .ok (.iload 4, 2) := by decide +kernel
theorem dL_law_1338 : decode cL_law 1338 = .ok (.iconst 2, 1) := by decide +kernel
theorem dL_law_1339 : decode cL_law 1339 = .ok (.iadd, 1) := by decide +kernel
theorem dL_law_1340 : decode cL_law 1340 = .ok (.iaload, 1) := by decide +kernel
theorem dL_law_1341 : decode cL_law 1341 = .ok (.aload_n 3, 1) := by decide +kernel
theorem dL_law_1342 : decode cL_law 1342 = .ok (.invokestatic 186, 3) := by decide +kernel
theorem dL_law_1345 : decode cL_law 1345 = .ok (.istore 5, 2) := by decide +kernel
theorem dL_law_1347 : decode cL_law 1347 = .ok (.aload_n 2, 1) := by decide +kernel
theorem dL_law_1348 : decode cL_law 1348 = .ok (.aload_n 0, 1) := by decide +kernel
theorem dL_law_1349 : decode cL_law 1349 = .ok (.iload 4, 2) := by decide +kernel
theorem dL_law_1351 : decode cL_law 1351 = .ok (.iconst 1, 1) := by decide +kernel
theorem dL_law_1352 : decode cL_law 1352 = .ok (.iadd, 1) := by decide +kernel
theorem dL_law_1353 : decode cL_law 1353 = .ok (.iaload, 1) := by decide +kernel
theorem dL_law_1354 : decode cL_law 1354 = .ok (.aload_n 0, 1) := by decide +kernel
theorem dL_law_1355 : decode cL_law 1355 = .ok (.iload 4, 2) := by decide +kernel
theorem dL_law_1357 : decode cL_law 1357 = .ok (.iconst 2, 1) := by decide +kernel
theorem dL_law_1358 : decode cL_law 1358 = .ok (.iadd, 1) := by decide +kernel
theorem dL_law_1359 : decode cL_law 1359 = .ok (.iaload, 1) := by decide +kernel
theorem dL_law_1360 : decode cL_law 1360 = .ok (.invokevirtual 188, 3) := by decide +kernel
theorem dL_law_1363 : decode cL_law 1363 = .ok (.istore 6, 2) := by decide +kernel
theorem dL_law_1365 : decode cL_law 1365 = .ok (.aload_n 2, 1) := by decide +kernel
theorem dL_law_1366 : decode cL_law 1366 = .ok (.invokevirtual 125, 3) := by decide +kernel
theorem dL_law_1369 : decode cL_law 1369 = .ok (.iload 5, 2) := by decide +kernel
theorem dL_law_1371 : decode cL_law 1371 = .ok (.if_icmp .eq 5, 3) := by decide +kernel
theorem dL_law_1374 : decode cL_law 1374 = .ok (.iconst 0, 1) := by decide +kernel
theorem dL_law_1375 : decode cL_law 1375 = .ok (.ireturn, 1) := by decide +kernel
theorem dL_law_1376 : decode cL_law 1376 = .ok (.iload 5, 2) := by decide +kernel
theorem dL_law_1378 : decode cL_law 1378 = .ok (.ifCond .ne 15, 3) := by decide +kernel
theorem dL_law_1381 : decode cL_law 1381 = .ok (.aload_n 3, 1) := by decide +kernel
theorem dL_law_1382 : decode cL_law 1382 = .ok (.iconst 0, 1) := by decide +kernel
theorem dL_law_1383 : decode cL_law 1383 = .ok (.laload, 1) := by decide +kernel
theorem dL_law_1384 : decode cL_law 1384 = .ok (.iload 6, 2) := by decide +kernel
theorem dL_law_1386 : decode cL_law 1386 = .ok (.i2l, 1) := by decide +kernel
theorem dL_law_1387 : decode cL_law 1387 = .ok (.lcmp, 1) := by decide +kernel
theorem dL_law_1388 : decode cL_law 1388 = .ok (.ifCond .eq 5, 3) := by decide +kernel
theorem dL_law_1391 : decode cL_law 1391 = .ok (.iconst 0, 1) := by decide +kernel
theorem dL_law_1392 : decode cL_law 1392 = .ok (.ireturn, 1) := by decide +kernel
theorem dL_law_1393 : decode cL_law 1393 = .ok (.goto 1137, 3) := by decide +kernel
theorem dL_law_1396 : decode cL_law 1396 = .ok (.aload_n 1, 1) := by decide +kernel
theorem dL_law_1397 : decode cL_law 1397 = .ok (.aload_n 0, 1) := by decide +kernel
theorem dL_law_1398 : decode cL_law 1398 = .ok (.iload 4, 2) := by decide +kernel
theorem dL_law_1400 : decode cL_law 1400 = .ok (.iconst 1, 1) := by decide +kernel
theorem dL_law_1401 : decode cL_law 1401 = .ok (.iadd, 1) := by decide +kernel
theorem dL_law_1402 : decode cL_law 1402 = .ok (.iaload, 1) := by decide +kernel
theorem dL_law_1403 : decode cL_law 1403 = .ok (.aload_n 0, 1) := by decide +kernel
theorem dL_law_1404 : decode cL_law 1404 = .ok (.iload 4, 2) := by decide +kernel
theorem dL_law_1406 : decode cL_law 1406 = .ok (.iconst 2, 1) := by decide +kernel
theorem dL_law_1407 : decode cL_law 1407 = .ok (.iadd, 1) := by decide +kernel
theorem dL_law_1408 : decode cL_law 1408 = .ok (.iaload, 1) := by decide +kernel
theorem dL_law_1409 : decode cL_law 1409 = .ok (.aload_n 3, 1) := by decide +kernel
theorem dL_law_1410 : decode cL_law 1410 = .ok (.invokestatic 189, 3) := by decide +kernel
theorem dL_law_1413 : decode cL_law 1413 = .ok (.istore 5, 2) := by decide +kernel
theorem dL_law_1415 : decode cL_law 1415 = .ok (.aload_n 2, 1) := by decide +kernel
theorem dL_law_1416 : decode cL_law 1416 = .ok (.aload_n 0, 1) := by decide +kernel
theorem dL_law_1417 : decode cL_law 1417 = .ok (.iload 4, 2) := by decide +kernel
theorem dL_law_1419 : decode cL_law 1419 = .ok (.iconst 1, 1) := by decide +kernel
theorem dL_law_1420 : decode cL_law 1420 = .ok (.iadd, 1) := by decide +kernel
theorem dL_law_1421 : decode cL_law 1421 = .ok (.iaload, 1) := by decide +kernel
theorem dL_law_1422 : decode cL_law 1422 = .ok (.aload_n 0, 1) := by decide +kernel
theorem dL_law_1423 : decode cL_law 1423 = .ok (.iload 4, 2) := by decide +kernel
theorem dL_law_1425 : decode cL_law 1425 = .ok (.iconst 2, 1) := by decide +kernel
theorem dL_law_1426 : decode cL_law 1426 = .ok (.iadd, 1) := by decide +kernel
theorem dL_law_1427 : decode cL_law 1427 = .ok (.iaload, 1) := by decide +kernel
theorem dL_law_1428 : decode cL_law 1428 = .ok (.invokevirtual 191, 3) := by decide +kernel
theorem dL_law_1431 : decode cL_law 1431 = .ok (.istore 6, 2) := by decide +kernel
theorem dL_law_1433 : decode cL_law 1433 = .ok (.aload_n 2, 1) := by decide +kernel
theorem dL_law_1434 : decode cL_law 1434 = .ok (.invokevirtual 125, 3) := by decide +kernel
theorem dL_law_1437 : decode cL_law 1437 = .ok (.iload 5, 2) := by decide +kernel
theorem dL_law_1439 : decode cL_law 1439 = .ok (.if_icmp .eq 5, 3) := by decide +kernel
theorem dL_law_1442 : decode cL_law 1442 = .ok (.iconst 0, 1) := by decide +kernel
theorem dL_law_1443 : decode cL_law 1443 = .ok (.ireturn, 1) := by decide +kernel
theorem dL_law_1444 : decode cL_law 1444 = .ok (.iload 5, 2) := by decide +kernel
theorem dL_law_1446 : decode cL_law 1446 = .ok (.ifCond .ne 15, 3) := by decide +kernel
theorem dL_law_1449 : decode cL_law 1449 = .ok (.aload_n 3, 1) := by decide +kernel
theorem dL_law_1450 : decode cL_law 1450 = .ok (.iconst 0, 1) := by decide +kernel
theorem dL_law_1451 : decode cL_law 1451 = .ok (.laload, 1) := by decide +kernel
theorem dL_law_1452 : decode cL_law 1452 = .ok (.iload 6, 2) := by decide +kernel
theorem dL_law_1454 : decode cL_law 1454 = .ok (.i2l, 1) := by decide +kernel
theorem dL_law_1455 : decode cL_law 1455 = .ok (.lcmp, 1) := by decide +kernel
theorem dL_law_1456 : decode cL_law 1456 = .ok (.ifCond .eq 5, 3) := by decide +kernel
theorem dL_law_1459 : decode cL_law 1459 = .ok (.iconst 0, 1) := by decide +kernel
theorem dL_law_1460 : decode cL_law 1460 = .ok (.ireturn, 1) := by decide +kernel
theorem dL_law_1461 : decode cL_law 1461 = .ok (.goto 1069, 3) := by decide +kernel
theorem dL_law_1464 : decode cL_law 1464 = .ok (.aload_n 1, 1) := by decide +kernel
theorem dL_law_1465 : decode cL_law 1465 = .ok (.aload_n 0, 1) := by decide +kernel
theorem dL_law_1466 : decode cL_law 1466 = .ok (.iload 4, 2) := by decide +kernel
theorem dL_law_1468 : decode cL_law 1468 = .ok (.iconst 1, 1) := by decide +kernel
theorem dL_law_1469 : decode cL_law 1469 = .ok (.iadd, 1) := by decide +kernel
theorem dL_law_1470 : decode cL_law 1470 = .ok (.iaload, 1) := by decide +kernel
theorem dL_law_1471 : decode cL_law 1471 = .ok (.aload_n 3, 1) := by decide +kernel
theorem dL_law_1472 : decode cL_law 1472 = .ok (.invokestatic 192, 3) := by decide +kernel
theorem dL_law_1475 : decode cL_law 1475 = .ok (.istore 5, 2) := by decide +kernel
theorem dL_law_1477 : decode cL_law 1477 = .ok (.aload_n 2, 1) := by decide +kernel
theorem dL_law_1478 : decode cL_law 1478 = .ok (.aload_n 0, 1) := by decide +kernel
theorem dL_law_1479 : decode cL_law 1479 = .ok (.iload 4, 2) := by decide +kernel
theorem dL_law_1481 : decode cL_law 1481 = .ok (.iconst 1, 1) := by decide +kernel
theorem dL_law_1482 : decode cL_law 1482 = .ok (.iadd, 1) := by decide +kernel
theorem dL_law_1483 : decode cL_law 1483 = .ok (.iaload, 1) := by decide +kernel
theorem dL_law_1484 : decode cL_law 1484 = .ok (.invokevirtual 194, 3) := by decide +kernel
theorem dL_law_1487 : decode cL_law 1487 = .ok (.istore 6, 2) := by decide +kernel
theorem dL_law_1489 : decode cL_law 1489 = .ok (.aload_n 2, 1) := by decide +kernel
theorem dL_law_1490 : decode cL_law 1490 = .ok (.invokevirtual 125, 3) := by decide +kernel
theorem dL_law_1493 : decode cL_law 1493 = .ok (.iload 5, 2) := by decide +kernel
theorem dL_law_1495 : decode cL_law 1495 = .ok (.if_icmp .eq 5, 3) := by decide +kernel
theorem dL_law_1498 : decode cL_law 1498 = .ok (.iconst 0, 1) := by decide +kernel
theorem dL_law_1499 : decode cL_law 1499 = .ok (.ireturn, 1) := by decide +kernel
theorem dL_law_1500 : decode cL_law 1500 = .ok (.iload 5, 2) := by decide +kernel
theorem dL_law_1502 : decode cL_law 1502 = .ok (.ifCond .ne 15, 3) := by decide +kernel
theorem dL_law_1505 : decode cL_law 1505 = .ok (.aload_n 3, 1) := by decide +kernel
theorem dL_law_1506 : decode cL_law 1506 = .ok (.iconst 0, 1) := by decide +kernel
theorem dL_law_1507 : decode cL_law 1507 = .ok (.laload, 1) := by decide +kernel
theorem dL_law_1508 : decode cL_law 1508 = .ok (.iload 6, 2) := by decide +kernel
theorem dL_law_1510 : decode cL_law 1510 = .ok (.i2l, 1) := by decide +kernel
theorem dL_law_1511 : decode cL_law 1511 = .ok (.lcmp, 1) := by decide +kernel
theorem dL_law_1512 : decode cL_law 1512 = .ok (.ifCond .eq 5, 3) := by decide +kernel
theorem dL_law_1515 : decode cL_law 1515 = .ok (.iconst 0, 1) := by decide +kernel
theorem dL_law_1516 : decode cL_law 1516 = .ok (.ireturn, 1) := by decide +kernel
theorem dL_law_1517 : decode cL_law 1517 = .ok (.goto 1013, 3) := by decide +kernel
theorem dL_law_1520 : decode cL_law 1520 = .ok (.aload_n 1, 1) := by decide +kernel
theorem dL_law_1521 : decode cL_law 1521 = .ok (.aload_n 0, 1) := by decide +kernel
theorem dL_law_1522 : decode cL_law 1522 = .ok (.iload 4, 2) := by decide +kernel
theorem dL_law_1524 : decode cL_law 1524 = .ok (.iconst 1, 1) := by decide +kernel
theorem dL_law_1525 : decode cL_law 1525 = .ok (.iadd, 1) := by decide +kernel
theorem dL_law_1526 : decode cL_law 1526 = .ok (.iaload, 1) := by decide +kernel
theorem dL_law_1527 : decode cL_law 1527 = .ok (.aload_n 0, 1) := by decide +kernel
theorem dL_law_1528 : decode cL_law 1528 = .ok (.iload 4, 2) := by decide +kernel
theorem dL_law_1530 : decode cL_law 1530 = .ok (.iconst 2, 1) := by decide +kernel
theorem dL_law_1531 : decode cL_law 1531 = .ok (.iadd, 1) := by decide +kernel
theorem dL_law_1532 : decode cL_law 1532 = .ok (.iaload, 1) := by decide +kernel
theorem dL_law_1533 : decode cL_law 1533 = .ok (.aload_n 3, 1) := by decide +kernel
theorem dL_law_1534 : decode cL_law 1534 = .ok (.invokestatic 195, 3) := by decide +kernel
theorem dL_law_1537 : decode cL_law 1537 = .ok (.istore 5, 2) := by decide +kernel
theorem dL_law_1539 : decode cL_law 1539 = .ok (.aload_n 2, 1) := by decide +kernel
theorem dL_law_1540 : decode cL_law 1540 = .ok (.aload_n 0, 1) := by decide +kernel
theorem dL_law_1541 : decode cL_law 1541 = .ok (.iload 4, 2) := by decide +kernel
theorem dL_law_1543 : decode cL_law 1543 = .ok (.iconst 1, 1) := by decide +kernel
theorem dL_law_1544 : decode cL_law 1544 = .ok (.iadd, 1) := by decide +kernel
theorem dL_law_1545 : decode cL_law 1545 = .ok (.iaload, 1) := by decide +kernel
theorem dL_law_1546 : decode cL_law 1546 = .ok (.aload_n 0, 1) := by decide +kernel
theorem dL_law_1547 : decode cL_law 1547 = .ok (.iload 4, 2) := by decide +kernel
theorem dL_law_1549 : decode cL_law 1549 = .ok (.iconst 2, 1) := by decide +kernel
theorem dL_law_1550 : decode cL_law 1550 = .ok (.iadd, 1) := by decide +kernel
theorem dL_law_1551 : decode cL_law 1551 = .ok (.iaload, 1) := by decide +kernel
theorem dL_law_1552 : decode cL_law 1552 = .ok (.invokevirtual 197, 3) := by decide +kernel
theorem dL_law_1555 : decode cL_law 1555 = .ok (.istore 6, 2) := by decide +kernel
theorem dL_law_1557 : decode cL_law 1557 = .ok (.aload_n 2, 1) := by decide +kernel
theorem dL_law_1558 : decode cL_law 1558 = .ok (.invokevirtual 125, 3) := by decide +kernel
theorem dL_law_1561 : decode cL_law 1561 = .ok (.iload 5, 2) := by decide +kernel
theorem dL_law_1563 : decode cL_law 1563 = .ok (.if_icmp .eq 5, 3) := by decide +kernel
theorem dL_law_1566 : decode cL_law 1566 = .ok (.iconst 0, 1) := by decide +kernel
theorem dL_law_1567 : decode cL_law 1567 = .ok (.ireturn, 1) := by decide +kernel
theorem dL_law_1568 : decode cL_law 1568 = .ok (.iload 5, 2) := by decide +kernel
theorem dL_law_1570 : decode cL_law 1570 = .ok (.ifCond .ne 15, 3) := by decide +kernel
theorem dL_law_1573 : decode cL_law 1573 = .ok (.aload_n 3, 1) := by decide +kernel
theorem dL_law_1574 : decode cL_law 1574 = .ok (.iconst 0, 1) := by decide +kernel
theorem dL_law_1575 : decode cL_law 1575 = .ok (.laload, 1) := by decide +kernel
theorem dL_law_1576 : decode cL_law 1576 = .ok (.iload 6, 2) := by decide +kernel
theorem dL_law_1578 : decode cL_law 1578 = .ok (.i2l, 1) := by decide +kernel
theorem dL_law_1579 : decode cL_law 1579 = .ok (.lcmp, 1) := by decide +kernel
theorem dL_law_1580 : decode cL_law 1580 = .ok (.ifCond .eq 5, 3) := by decide +kernel
theorem dL_law_1583 : decode cL_law 1583 = .ok (.iconst 0, 1) := by decide +kernel
theorem dL_law_1584 : decode cL_law 1584 = .ok (.ireturn, 1) := by decide +kernel
theorem dL_law_1585 : decode cL_law 1585 = .ok (.goto 945, 3) := by decide +kernel
theorem dL_law_1588 : decode cL_law 1588 = .ok (.aload_n 1, 1) := by decide +kernel
theorem dL_law_1589 : decode cL_law 1589 = .ok (.aload_n 0, 1) := by decide +kernel
theorem dL_law_1590 : decode cL_law 1590 = .ok (.iload 4, 2) := by decide +kernel
theorem dL_law_1592 : decode cL_law 1592 = .ok (.iconst 1, 1) := by decide +kernel
theorem dL_law_1593 : decode cL_law 1593 = .ok (.iadd, 1) := by decide +kernel
theorem dL_law_1594 : decode cL_law 1594 = .ok (.iaload, 1) := by decide +kernel
theorem dL_law_1595 : decode cL_law 1595 = .ok (.aload_n 3, 1) := by decide +kernel
theorem dL_law_1596 : decode cL_law 1596 = .ok (.invokestatic 198, 3) := by decide +kernel
theorem dL_law_1599 : decode cL_law 1599 = .ok (.istore 5, 2) := by decide +kernel
theorem dL_law_1601 : decode cL_law 1601 = .ok (.aload_n 2, 1) := by decide +kernel
theorem dL_law_1602 : decode cL_law 1602 = .ok (.aload_n 0, 1) := by decide +kernel
theorem dL_law_1603 : decode cL_law 1603 = .ok (.iload 4, 2) := by decide +kernel
theorem dL_law_1605 : decode cL_law 1605 = .ok (.iconst 1, 1) := by decide +kernel
theorem dL_law_1606 : decode cL_law 1606 = .ok (.iadd, 1) := by decide +kernel
theorem dL_law_1607 : decode cL_law 1607 = .ok (.iaload, 1) := by decide +kernel
theorem dL_law_1608 : decode cL_law 1608 = .ok (.invokevirtual 200, 3) := by decide +kernel
theorem dL_law_1611 : decode cL_law 1611 = .ok (.istore 6, 2) := by decide +kernel
theorem dL_law_1613 : decode cL_law 1613 = .ok (.aload_n 2, 1) := by decide +kernel
theorem dL_law_1614 : decode cL_law 1614 = .ok (.invokevirtual 125, 3) := by decide +kernel
theorem dL_law_1617 : decode cL_law 1617 = .ok (.iload 5, 2) := by decide +kernel
theorem dL_law_1619 : decode cL_law 1619 = .ok (.if_icmp .eq 5, 3) := by decide +kernel
theorem dL_law_1622 : decode cL_law 1622 = .ok (.iconst 0, 1) := by decide +kernel
theorem dL_law_1623 : decode cL_law 1623 = .ok (.ireturn, 1) := by decide +kernel
theorem dL_law_1624 : decode cL_law 1624 = .ok (.iload 5, 2) := by decide +kernel
theorem dL_law_1626 : decode cL_law 1626 = .ok (.ifCond .ne 15, 3) := by decide +kernel
theorem dL_law_1629 : decode cL_law 1629 = .ok (.aload_n 3, 1) := by decide +kernel
theorem dL_law_1630 : decode cL_law 1630 = .ok (.iconst 0, 1) := by decide +kernel
theorem dL_law_1631 : decode cL_law 1631 = .ok (.laload, 1) := by decide +kernel
theorem dL_law_1632 : decode cL_law 1632 = .ok (.iload 6, 2) := by decide +kernel
theorem dL_law_1634 : decode cL_law 1634 = .ok (.i2l, 1) := by decide +kernel
theorem dL_law_1635 : decode cL_law 1635 = .ok (.lcmp, 1) := by decide +kernel
theorem dL_law_1636 : decode cL_law 1636 = .ok (.ifCond .eq 5, 3) := by decide +kernel
theorem dL_law_1639 : decode cL_law 1639 = .ok (.iconst 0, 1) := by decide +kernel
theorem dL_law_1640 : decode cL_law 1640 = .ok (.ireturn, 1) := by decide +kernel
theorem dL_law_1641 : decode cL_law 1641 = .ok (.goto 889, 3) := by decide +kernel
theorem dL_law_1644 : decode cL_law 1644 = .ok (.aload_n 1, 1) := by decide +kernel
theorem dL_law_1645 : decode cL_law 1645 = .ok (.invokevirtual 201, 3) := by decide +kernel
theorem dL_law_1648 : decode cL_law 1648 = .ok (.aload_n 2, 1) := by decide +kernel
theorem dL_law_1649 : decode cL_law 1649 = .ok (.invokevirtual 204, 3) := by decide +kernel
theorem dL_law_1652 : decode cL_law 1652 = .ok (.if_icmp .eq 878, 3) := by decide +kernel
theorem dL_law_1655 : decode cL_law 1655 = .ok (.iconst 0, 1) := by decide +kernel
theorem dL_law_1656 : decode cL_law 1656 = .ok (.ireturn, 1) := by decide +kernel
theorem dL_law_1657 : decode cL_law 1657 = .ok (.aload_n 1, 1) := by decide +kernel
theorem dL_law_1658 : decode cL_law 1658 = .ok (.aload_n 0, 1) := by decide +kernel
theorem dL_law_1659 : decode cL_law 1659 = .ok (.iload 4, 2) := by decide +kernel
theorem dL_law_1661 : decode cL_law 1661 = .ok (.iconst 1, 1) := by decide +kernel
theorem dL_law_1662 : decode cL_law 1662 = .ok (.iadd, 1) := by decide +kernel
theorem dL_law_1663 : decode cL_law 1663 = .ok (.iaload, 1) := by decide +kernel
theorem dL_law_1664 : decode cL_law 1664 = .ok (.aload_n 0, 1) := by decide +kernel
theorem dL_law_1665 : decode cL_law 1665 = .ok (.iload 4, 2) := by decide +kernel
theorem dL_law_1667 : decode cL_law 1667 = .ok (.iconst 2, 1) := by decide +kernel
theorem dL_law_1668 : decode cL_law 1668 = .ok (.iadd, 1) := by decide +kernel
theorem dL_law_1669 : decode cL_law 1669 = .ok (.iaload, 1) := by decide +kernel
theorem dL_law_1670 : decode cL_law 1670 = .ok (.aload_n 0, 1) := by decide +kernel
theorem dL_law_1671 : decode cL_law 1671 = .ok (.iload 4, 2) := by decide +kernel
theorem dL_law_1673 : decode cL_law 1673 = .ok (.iconst 3, 1) := by decide +kernel
theorem dL_law_1674 : decode cL_law 1674 = .ok (.iadd, 1) := by decide +kernel
theorem dL_law_1675 : decode cL_law 1675 = .ok (.iaload, 1) := by decide +kernel
theorem dL_law_1676 : decode cL_law 1676 = .ok (.aload_n 3, 1) := by decide +kernel
theorem dL_law_1677 : decode cL_law 1677 = .ok (.invokestatic 205, 3) := by decide +kernel
theorem dL_law_1680 : decode cL_law 1680 = .ok (.istore 5, 2) := by decide +kernel
theorem dL_law_1682 : decode cL_law 1682 = .ok (.aload_n 2, 1) := by decide +kernel
theorem dL_law_1683 : decode cL_law 1683 = .ok (.aload_n 0, 1) := by decide +kernel
theorem dL_law_1684 : decode cL_law 1684 = .ok (.iload 4, 2) := by decide +kernel
theorem dL_law_1686 : decode cL_law 1686 = .ok (.iconst 1, 1) := by decide +kernel
theorem dL_law_1687 : decode cL_law 1687 = .ok (.iadd, 1) := by decide +kernel
theorem dL_law_1688 : decode cL_law 1688 = .ok (.iaload, 1) := by decide +kernel
theorem dL_law_1689 : decode cL_law 1689 = .ok (.aload_n 0, 1) := by decide +kernel
theorem dL_law_1690 : decode cL_law 1690 = .ok (.iload 4, 2) := by decide +kernel
theorem dL_law_1692 : decode cL_law 1692 = .ok (.iconst 2, 1) := by decide +kernel
theorem dL_law_1693 : decode cL_law 1693 = .ok (.iadd, 1) := by decide +kernel
theorem dL_law_1694 : decode cL_law 1694 = .ok (.iaload, 1) := by decide +kernel
theorem dL_law_1695 : decode cL_law 1695 = .ok (.aload_n 0, 1) := by decide +kernel
theorem dL_law_1696 : decode cL_law 1696 = .ok (.iload 4, 2) := by decide +kernel
theorem dL_law_1698 : decode cL_law 1698 = .ok (.iconst 3, 1) := by decide +kernel
theorem dL_law_1699 : decode cL_law 1699 = .ok (.iadd, 1) := by decide +kernel
theorem dL_law_1700 : decode cL_law 1700 = .ok (.iaload, 1) := by decide +kernel
theorem dL_law_1701 : decode cL_law 1701 = .ok (.invokevirtual 207, 3) := by decide +kernel
theorem dL_law_1704 : decode cL_law 1704 = .ok (.istore 6, 2) := by decide +kernel
theorem dL_law_1706 : decode cL_law 1706 = .ok (.aload_n 2, 1) := by decide +kernel
theorem dL_law_1707 : decode cL_law 1707 = .ok (.invokevirtual 125, 3) := by decide +kernel
theorem dL_law_1710 : decode cL_law 1710 = .ok (.iload 5, 2) := by decide +kernel
theorem dL_law_1712 : decode cL_law 1712 = .ok (.if_icmp .eq 5, 3) := by decide +kernel
theorem dL_law_1715 : decode cL_law 1715 = .ok (.iconst 0, 1) := by decide +kernel
theorem dL_law_1716 : decode cL_law 1716 = .ok (.ireturn, 1) := by decide +kernel
theorem dL_law_1717 : decode cL_law 1717 = .ok (.iload 5, 2) := by decide +kernel
theorem dL_law_1719 : decode cL_law 1719 = .ok (.ifCond .ne 15, 3) := by decide +kernel
theorem dL_law_1722 : decode cL_law 1722 = .ok (.aload_n 3, 1) := by decide +kernel
theorem dL_law_1723 : decode cL_law 1723 = .ok (.iconst 0, 1) := by decide +kernel
theorem dL_law_1724 : decode cL_law 1724 = .ok (.laload, 1) := by decide +kernel
theorem dL_law_1725 : decode cL_law 1725 = .ok (.iload 6, 2) := by decide +kernel
theorem dL_law_1727 : decode cL_law 1727 = .ok (.i2l, 1) := by decide +kernel
theorem dL_law_1728 : decode cL_law 1728 = .ok (.lcmp, 1) := by decide +kernel
theorem dL_law_1729 : decode cL_law 1729 = .ok (.ifCond .eq 5, 3) := by decide +kernel
theorem dL_law_1732 : decode cL_law 1732 = .ok (.iconst 0, 1) := by decide +kernel
theorem dL_law_1733 : decode cL_law 1733 = .ok (.ireturn, 1) := by decide +kernel
theorem dL_law_1734 : decode cL_law 1734 = .ok (.goto 796, 3) := by decide +kernel
theorem dL_law_1737 : decode cL_law 1737 = .ok (.aload_n 1, 1) := by decide +kernel
theorem dL_law_1738 : decode cL_law 1738 = .ok (.aload_n 0, 1) := by decide +kernel
theorem dL_law_1739 : decode cL_law 1739 = .ok (.iload 4, 2) := by decide +kernel
theorem dL_law_1741 : decode cL_law 1741 = .ok (.iconst 1, 1) := by decide +kernel
theorem dL_law_1742 : decode cL_law 1742 = .ok (.iadd, 1) := by decide +kernel
theorem dL_law_1743 : decode cL_law 1743 = .ok (.iaload, 1) := by decide +kernel
theorem dL_law_1744 : decode cL_law 1744 = .ok (.aload_n 0, 1) := by decide +kernel
theorem dL_law_1745 : decode cL_law 1745 = .ok (.iload 4, 2) := by decide +kernel
theorem dL_law_1747 : decode cL_law 1747 = .ok (.iconst 2, 1) := by decide +kernel
theorem dL_law_1748 : decode cL_law 1748 = .ok (.iadd, 1) := by decide +kernel
theorem dL_law_1749 : decode cL_law 1749 = .ok (.iaload, 1) := by decide +kernel
theorem dL_law_1750 : decode cL_law 1750 = .ok (.aload_n 0, 1) := by decide +kernel
theorem dL_law_1751 : decode cL_law 1751 = .ok (.iload 4, 2) := by decide +kernel
theorem dL_law_1753 : decode cL_law 1753 = .ok (.iconst 3, 1) := by decide +kernel
theorem dL_law_1754 : decode cL_law 1754 = .ok (.iadd, 1) := by decide +kernel
theorem dL_law_1755 : decode cL_law 1755 = .ok (.iaload, 1) := by decide +kernel
theorem dL_law_1756 : decode cL_law 1756 = .ok (.aload_n 0, 1) := by decide +kernel
theorem dL_law_1757 : decode cL_law 1757 = .ok (.iload 4, 2) := by decide +kernel
theorem dL_law_1759 : decode cL_law 1759 = .ok (.iconst 4, 1) := by decide +kernel
theorem dL_law_1760 : decode cL_law 1760 = .ok (.iadd, 1) := by decide +kernel
theorem dL_law_1761 : decode cL_law 1761 = .ok (.iaload, 1) := by decide +kernel
theorem dL_law_1762 : decode cL_law 1762 = .ok (.ifCond .eq 7, 3) := by decide +kernel
theorem dL_law_1765 : decode cL_law 1765 = .ok (.iconst 1, 1) := by decide +kernel
theorem dL_law_1766 : decode cL_law 1766 = .ok (.goto 4, 3) := by decide +kernel
theorem dL_law_1769 : decode cL_law 1769 = .ok (.iconst 0, 1) := by decide +kernel
theorem dL_law_1770 : decode cL_law 1770 = .ok (.aload_n 3, 1) := by decide +kernel
theorem dL_law_1771 : decode cL_law 1771 = .ok (.invokestatic 208, 3) := by decide +kernel
theorem dL_law_1774 : decode cL_law 1774 = .ok (.istore 5, 2) := by decide +kernel
theorem dL_law_1776 : decode cL_law 1776 = .ok (.aload_n 2, 1) := by decide +kernel
theorem dL_law_1777 : decode cL_law 1777 = .ok (.aload_n 0, 1) := by decide +kernel
theorem dL_law_1778 : decode cL_law 1778 = .ok (.iload 4, 2) := by decide +kernel
theorem dL_law_1780 : decode cL_law 1780 = .ok (.iconst 1, 1) := by decide +kernel
theorem dL_law_1781 : decode cL_law 1781 = .ok (.iadd, 1) := by decide +kernel
theorem dL_law_1782 : decode cL_law 1782 = .ok (.iaload, 1) := by decide +kernel
theorem dL_law_1783 : decode cL_law 1783 = .ok (.aload_n 0, 1) := by decide +kernel
theorem dL_law_1784 : decode cL_law 1784 = .ok (.iload 4, 2) := by decide +kernel
theorem dL_law_1786 : decode cL_law 1786 = .ok (.iconst 2, 1) := by decide +kernel
theorem dL_law_1787 : decode cL_law 1787 = .ok (.iadd, 1) := by decide +kernel
theorem dL_law_1788 : decode cL_law 1788 = .ok (.iaload, 1) := by decide +kernel
theorem dL_law_1789 : decode cL_law 1789 = .ok (.aload_n 0, 1) := by decide +kernel
theorem dL_law_1790 : decode cL_law 1790 = .ok (.iload 4, 2) := by decide +kernel
theorem dL_law_1792 : decode cL_law 1792 = .ok (.iconst 3, 1) := by decide +kernel
theorem dL_law_1793 : decode cL_law 1793 = .ok (.iadd, 1) := by decide +kernel
theorem dL_law_1794 : decode cL_law 1794 = .ok (.iaload, 1) := by decide +kernel
theorem dL_law_1795 : decode cL_law 1795 = .ok (.aload_n 0, 1) := by decide +kernel
theorem dL_law_1796 : decode cL_law 1796 = .ok (.iload 4, 2) := by decide +kernel
theorem dL_law_1798 : decode cL_law 1798 = .ok (.iconst 4, 1) := by decide +kernel
theorem dL_law_1799 : decode cL_law 1799 = .ok (.iadd, 1) := by decide +kernel
theorem dL_law_1800 : decode cL_law 1800 = .ok (.iaload, 1) := by decide +kernel
theorem dL_law_1801 : decode cL_law 1801 = .ok (.ifCond .eq 7, 3) := by decide +kernel
theorem dL_law_1804 : decode cL_law 1804 = .ok (.iconst 1, 1) := by decide +kernel
theorem dL_law_1805 : decode cL_law 1805 = .ok (.goto 4, 3) := by decide +kernel
theorem dL_law_1808 : decode cL_law 1808 = .ok (.iconst 0, 1) := by decide +kernel
theorem dL_law_1809 : decode cL_law 1809 = .ok (.invokevirtual 211, 3) := by decide +kernel
theorem dL_law_1812 : decode cL_law 1812 = .ok (.istore 6, 2) := by decide +kernel
theorem dL_law_1814 : decode cL_law 1814 = .ok (.aload_n 2, 1) := by decide +kernel
theorem dL_law_1815 : decode cL_law 1815 = .ok (.invokevirtual 125, 3) := by decide +kernel
theorem dL_law_1818 : decode cL_law 1818 = .ok (.iload 5, 2) := by decide +kernel
theorem dL_law_1820 : decode cL_law 1820 = .ok (.if_icmp .eq 5, 3) := by decide +kernel
theorem dL_law_1823 : decode cL_law 1823 = .ok (.iconst 0, 1) := by decide +kernel
theorem dL_law_1824 : decode cL_law 1824 = .ok (.ireturn, 1) := by decide +kernel
theorem dL_law_1825 : decode cL_law 1825 = .ok (.iload 5, 2) := by decide +kernel
theorem dL_law_1827 : decode cL_law 1827 = .ok (.ifCond .ne 15, 3) := by decide +kernel
theorem dL_law_1830 : decode cL_law 1830 = .ok (.aload_n 3, 1) := by decide +kernel
theorem dL_law_1831 : decode cL_law 1831 = .ok (.iconst 0, 1) := by decide +kernel
theorem dL_law_1832 : decode cL_law 1832 = .ok (.laload, 1) := by decide +kernel
theorem dL_law_1833 : decode cL_law 1833 = .ok (.iload 6, 2) := by decide +kernel
theorem dL_law_1835 : decode cL_law 1835 = .ok (.i2l, 1) := by decide +kernel
theorem dL_law_1836 : decode cL_law 1836 = .ok (.lcmp, 1) := by decide +kernel
theorem dL_law_1837 : decode cL_law 1837 = .ok (.ifCond .eq 5, 3) := by decide +kernel
theorem dL_law_1840 : decode cL_law 1840 = .ok (.iconst 0, 1) := by decide +kernel
theorem dL_law_1841 : decode cL_law 1841 = .ok (.ireturn, 1) := by decide +kernel
theorem dL_law_1842 : decode cL_law 1842 = .ok (.goto 688, 3) := by decide +kernel
theorem dL_law_1845 : decode cL_law 1845 = .ok (.aload_n 1, 1) := by decide +kernel
theorem dL_law_1846 : decode cL_law 1846 = .ok (.invokevirtual 212, 3) := by decide +kernel
theorem dL_law_1849 : decode cL_law 1849 = .ok (.aload_n 2, 1) := by decide +kernel
theorem dL_law_1850 : decode cL_law 1850 = .ok (.invokevirtual 215, 3) := by decide +kernel
theorem dL_law_1853 : decode cL_law 1853 = .ok (.goto 677, 3) := by decide +kernel
theorem dL_law_1856 : decode cL_law 1856 = .ok (.aload_n 1, 1) := by decide +kernel
theorem dL_law_1857 : decode cL_law 1857 = .ok (.invokevirtual 216, 3) := by decide +kernel
theorem dL_law_1860 : decode cL_law 1860 = .ok (.aload_n 2, 1) := by decide +kernel
theorem dL_law_1861 : decode cL_law 1861 = .ok (.invokevirtual 219, 3) := by decide +kernel
theorem dL_law_1864 : decode cL_law 1864 = .ok (.if_icmp .eq 666, 3) := by decide +kernel
theorem dL_law_1867 : decode cL_law 1867 = .ok (.iconst 0, 1) := by decide +kernel
theorem dL_law_1868 : decode cL_law 1868 = .ok (.ireturn, 1) := by decide +kernel
theorem dL_law_1869 : decode cL_law 1869 = .ok (.aload_n 1, 1) := by decide +kernel
theorem dL_law_1870 : decode cL_law 1870 = .ok (.aload_n 0, 1) := by decide +kernel
theorem dL_law_1871 : decode cL_law 1871 = .ok (.iload 4, 2) := by decide +kernel
theorem dL_law_1873 : decode cL_law 1873 = .ok (.iconst 1, 1) := by decide +kernel
theorem dL_law_1874 : decode cL_law 1874 = .ok (.iadd, 1) := by decide +kernel
theorem dL_law_1875 : decode cL_law 1875 = .ok (.iaload, 1) := by decide +kernel
theorem dL_law_1876 : decode cL_law 1876 = .ok (.aload_n 0, 1) := by decide +kernel
theorem dL_law_1877 : decode cL_law 1877 = .ok (.iload 4, 2) := by decide +kernel
theorem dL_law_1879 : decode cL_law 1879 = .ok (.iconst 2, 1) := by decide +kernel
theorem dL_law_1880 : decode cL_law 1880 = .ok (.iadd, 1) := by decide +kernel
theorem dL_law_1881 : decode cL_law 1881 = .ok (.iaload, 1) := by decide +kernel
theorem dL_law_1882 : decode cL_law 1882 = .ok (.aload_n 3, 1) := by decide +kernel
theorem dL_law_1883 : decode cL_law 1883 = .ok (.invokestatic 220, 3) := by decide +kernel
theorem dL_law_1886 : decode cL_law 1886 = .ok (.istore 5, 2) := by decide +kernel
theorem dL_law_1888 : decode cL_law 1888 = .ok (.aload_n 2, 1) := by decide +kernel
theorem dL_law_1889 : decode cL_law 1889 = .ok (.aload_n 0, 1) := by decide +kernel
theorem dL_law_1890 : decode cL_law 1890 = .ok (.iload 4, 2) := by decide +kernel
theorem dL_law_1892 : decode cL_law 1892 = .ok (.iconst 1, 1) := by decide +kernel
theorem dL_law_1893 : decode cL_law 1893 = .ok (.iadd, 1) := by decide +kernel
theorem dL_law_1894 : decode cL_law 1894 = .ok (.iaload, 1) := by decide +kernel
theorem dL_law_1895 : decode cL_law 1895 = .ok (.aload_n 0, 1) := by decide +kernel
theorem dL_law_1896 : decode cL_law 1896 = .ok (.iload 4, 2) := by decide +kernel
theorem dL_law_1898 : decode cL_law 1898 = .ok (.iconst 2, 1) := by decide +kernel
theorem dL_law_1899 : decode cL_law 1899 = .ok (.iadd, 1) := by decide +kernel
theorem dL_law_1900 : decode cL_law 1900 = .ok (.iaload, 1) := by decide +kernel
theorem dL_law_1901 : decode cL_law 1901 = .ok (.invokevirtual 222, 3) := by decide +kernel
theorem dL_law_1904 : decode cL_law 1904 = .ok (.istore 6, 2) := by decide +kernel
theorem dL_law_1906 : decode cL_law 1906 = .ok (.aload_n 2, 1) := by decide +kernel
theorem dL_law_1907 : decode cL_law 1907 = .ok (.invokevirtual 125, 3) := by decide +kernel
theorem dL_law_1910 : decode cL_law 1910 = .ok (.iload 5, 2) := by decide +kernel
theorem dL_law_1912 : decode cL_law 1912 = .ok (.if_icmp .eq 5, 3) := by decide +kernel
theorem dL_law_1915 : decode cL_law 1915 = .ok (.iconst 0, 1) := by decide +kernel
theorem dL_law_1916 : decode cL_law 1916 = .ok (.ireturn, 1) := by decide +kernel
theorem dL_law_1917 : decode cL_law 1917 = .ok (.iload 5, 2) := by decide +kernel
theorem dL_law_1919 : decode cL_law 1919 = .ok (.ifCond .ne 15, 3) := by decide +kernel
theorem dL_law_1922 : decode cL_law 1922 = .ok (.aload_n 3, 1) := by decide +kernel
theorem dL_law_1923 : decode cL_law 1923 = .ok (.iconst 0, 1) := by decide +kernel
theorem dL_law_1924 : decode cL_law 1924 = .ok (.laload, 1) := by decide +kernel
theorem dL_law_1925 : decode cL_law 1925 = .ok (.iload 6, 2) := by decide +kernel
theorem dL_law_1927 : decode cL_law 1927 = .ok (.i2l, 1) := by decide +kernel
theorem dL_law_1928 : decode cL_law 1928 = .ok (.lcmp, 1) := by decide +kernel
theorem dL_law_1929 : decode cL_law 1929 = .ok (.ifCond .eq 5, 3) := by decide +kernel
theorem dL_law_1932 : decode cL_law 1932 = .ok (.iconst 0, 1) := by decide +kernel
theorem dL_law_1933 : decode cL_law 1933 = .ok (.ireturn, 1) := by decide +kernel
theorem dL_law_1934 : decode cL_law 1934 = .ok (.goto 596, 3) := by decide +kernel
theorem dL_law_1937 : decode cL_law 1937 = .ok (.aload_n 1, 1) := by decide +kernel
theorem dL_law_1938 : decode cL_law 1938 = .ok (.aload_n 0, 1) := by decide +kernel
theorem dL_law_1939 : decode cL_law 1939 = .ok (.iload 4, 2) := by decide +kernel
theorem dL_law_1941 : decode cL_law 1941 = .ok (.iconst 1, 1) := by decide +kernel
theorem dL_law_1942 : decode cL_law 1942 = .ok (.iadd, 1) := by decide +kernel
theorem dL_law_1943 : decode cL_law 1943 = .ok (.iaload, 1) := by decide +kernel
theorem dL_law_1944 : decode cL_law 1944 = .ok (.aload_n 0, 1) := by decide +kernel
theorem dL_law_1945 : decode cL_law 1945 = .ok (.iload 4, 2) := by decide +kernel
theorem dL_law_1947 : decode cL_law 1947 = .ok (.iconst 2, 1) := by decide +kernel
theorem dL_law_1948 : decode cL_law 1948 = .ok (.iadd, 1) := by decide +kernel
theorem dL_law_1949 : decode cL_law 1949 = .ok (.iaload, 1) := by decide +kernel
theorem dL_law_1950 : decode cL_law 1950 = .ok (.aload_n 0, 1) := by decide +kernel
theorem dL_law_1951 : decode cL_law 1951 = .ok (.iload 4, 2) := by decide +kernel
theorem dL_law_1953 : decode cL_law 1953 = .ok (.iconst 3, 1) := by decide +kernel
theorem dL_law_1954 : decode cL_law 1954 = .ok (.iadd, 1) := by decide +kernel
theorem dL_law_1955 : decode cL_law 1955 = .ok (.iaload, 1) := by decide +kernel
theorem dL_law_1956 : decode cL_law 1956 = .ok (.aload_n 0, 1) := by decide +kernel
theorem dL_law_1957 : decode cL_law 1957 = .ok (.iload 4, 2) := by decide +kernel
theorem dL_law_1959 : decode cL_law 1959 = .ok (.iconst 4, 1) := by decide +kernel
theorem dL_law_1960 : decode cL_law 1960 = .ok (.iadd, 1) := by decide +kernel
theorem dL_law_1961 : decode cL_law 1961 = .ok (.iaload, 1) := by decide +kernel
theorem dL_law_1962 : decode cL_law 1962 = .ok (.aload_n 0, 1) := by decide +kernel
theorem dL_law_1963 : decode cL_law 1963 = .ok (.iload 4, 2) := by decide +kernel
theorem dL_law_1965 : decode cL_law 1965 = .ok (.iconst 5, 1) := by decide +kernel
theorem dL_law_1966 : decode cL_law 1966 = .ok (.iadd, 1) := by decide +kernel
theorem dL_law_1967 : decode cL_law 1967 = .ok (.iaload, 1) := by decide +kernel
theorem dL_law_1968 : decode cL_law 1968 = .ok (.aload_n 3, 1) := by decide +kernel
theorem dL_law_1969 : decode cL_law 1969 = .ok (.invokestatic 223, 3) := by decide +kernel
theorem dL_law_1972 : decode cL_law 1972 = .ok (.istore 5, 2) := by decide +kernel
theorem dL_law_1974 : decode cL_law 1974 = .ok (.aload_n 2, 1) := by decide +kernel
theorem dL_law_1975 : decode cL_law 1975 = .ok (.aload_n 0, 1) := by decide +kernel
theorem dL_law_1976 : decode cL_law 1976 = .ok (.iload 4, 2) := by decide +kernel
theorem dL_law_1978 : decode cL_law 1978 = .ok (.iconst 1, 1) := by decide +kernel
theorem dL_law_1979 : decode cL_law 1979 = .ok (.iadd, 1) := by decide +kernel
theorem dL_law_1980 : decode cL_law 1980 = .ok (.iaload, 1) := by decide +kernel
theorem dL_law_1981 : decode cL_law 1981 = .ok (.aload_n 0, 1) := by decide +kernel
theorem dL_law_1982 : decode cL_law 1982 = .ok (.iload 4, 2) := by decide +kernel
theorem dL_law_1984 : decode cL_law 1984 = .ok (.iconst 2, 1) := by decide +kernel
theorem dL_law_1985 : decode cL_law 1985 = .ok (.iadd, 1) := by decide +kernel
theorem dL_law_1986 : decode cL_law 1986 = .ok (.iaload, 1) := by decide +kernel
theorem dL_law_1987 : decode cL_law 1987 = .ok (.aload_n 0, 1) := by decide +kernel
theorem dL_law_1988 : decode cL_law 1988 = .ok (.iload 4, 2) := by decide +kernel
theorem dL_law_1990 : decode cL_law 1990 = .ok (.iconst 3, 1) := by decide +kernel
theorem dL_law_1991 : decode cL_law 1991 = .ok (.iadd, 1) := by decide +kernel
theorem dL_law_1992 : decode cL_law 1992 = .ok (.iaload, 1) := by decide +kernel
theorem dL_law_1993 : decode cL_law 1993 = .ok (.aload_n 0, 1) := by decide +kernel
theorem dL_law_1994 : decode cL_law 1994 = .ok (.iload 4, 2) := by decide +kernel
theorem dL_law_1996 : decode cL_law 1996 = .ok (.iconst 4, 1) := by decide +kernel
theorem dL_law_1997 : decode cL_law 1997 = .ok (.iadd, 1) := by decide +kernel
theorem dL_law_1998 : decode cL_law 1998 = .ok (.iaload, 1) := by decide +kernel
theorem dL_law_1999 : decode cL_law 1999 = .ok (.aload_n 0, 1) := by decide +kernel
theorem dL_law_2000 : decode cL_law 2000 = .ok (.iload 4, 2) := by decide +kernel
theorem dL_law_2002 : decode cL_law 2002 = .ok (.iconst 5, 1) := by decide +kernel
theorem dL_law_2003 : decode cL_law 2003 = .ok (.iadd, 1) := by decide +kernel
theorem dL_law_2004 : decode cL_law 2004 = .ok (.iaload, 1) := by decide +kernel
theorem dL_law_2005 : decode cL_law 2005 = .ok (.invokevirtual 226, 3) := by decide +kernel
theorem dL_law_2008 : decode cL_law 2008 = .ok (.istore 6, 2) := by decide +kernel
theorem dL_law_2010 : decode cL_law 2010 = .ok (.aload_n 2, 1) := by decide +kernel
theorem dL_law_2011 : decode cL_law 2011 = .ok (.invokevirtual 125, 3) := by decide +kernel
theorem dL_law_2014 : decode cL_law 2014 = .ok (.iload 5, 2) := by decide +kernel
theorem dL_law_2016 : decode cL_law 2016 = .ok (.if_icmp .eq 5, 3) := by decide +kernel
theorem dL_law_2019 : decode cL_law 2019 = .ok (.iconst 0, 1) := by decide +kernel
theorem dL_law_2020 : decode cL_law 2020 = .ok (.ireturn, 1) := by decide +kernel
theorem dL_law_2021 : decode cL_law 2021 = .ok (.iload 5, 2) := by decide +kernel
theorem dL_law_2023 : decode cL_law 2023 = .ok (.ifCond .ne 15, 3) := by decide +kernel
theorem dL_law_2026 : decode cL_law 2026 = .ok (.aload_n 3, 1) := by decide +kernel
theorem dL_law_2027 : decode cL_law 2027 = .ok (.iconst 0, 1) := by decide +kernel
theorem dL_law_2028 : decode cL_law 2028 = .ok (.laload, 1) := by decide +kernel
theorem dL_law_2029 : decode cL_law 2029 = .ok (.iload 6, 2) := by decide +kernel
theorem dL_law_2031 : decode cL_law 2031 = .ok (.i2l, 1) := by decide +kernel
theorem dL_law_2032 : decode cL_law 2032 = .ok (.lcmp, 1) := by decide +kernel
theorem dL_law_2033 : decode cL_law 2033 = .ok (.ifCond .eq 5, 3) := by decide +kernel
theorem dL_law_2036 : decode cL_law 2036 = .ok (.iconst 0, 1) := by decide +kernel
theorem dL_law_2037 : decode cL_law 2037 = .ok (.ireturn, 1) := by decide +kernel
theorem dL_law_2038 : decode cL_law 2038 = .ok (.goto 492, 3) := by decide +kernel
theorem dL_law_2041 : decode cL_law 2041 = .ok (.aload_n 1, 1) := by decide +kernel
theorem dL_law_2042 : decode cL_law 2042 = .ok (.aload_n 0, 1) := by decide +kernel
theorem dL_law_2043 : decode cL_law 2043 = .ok (.iload 4, 2) := by decide +kernel
theorem dL_law_2045 : decode cL_law 2045 = .ok (.iconst 1, 1) := by decide +kernel
theorem dL_law_2046 : decode cL_law 2046 = .ok (.iadd, 1) := by decide +kernel
theorem dL_law_2047 : decode cL_law 2047 = .ok (.iaload, 1) := by decide +kernel
theorem dL_law_2048 : decode cL_law 2048 = .ok (.aload_n 0, 1) := by decide +kernel
theorem dL_law_2049 : decode cL_law 2049 = .ok (.iload 4, 2) := by decide +kernel
theorem dL_law_2051 : decode cL_law 2051 = .ok (.iconst 2, 1) := by decide +kernel
theorem dL_law_2052 : decode cL_law 2052 = .ok (.iadd, 1) := by decide +kernel
theorem dL_law_2053 : decode cL_law 2053 = .ok (.iaload, 1) := by decide +kernel
theorem dL_law_2054 : decode cL_law 2054 = .ok (.aload_n 0, 1) := by decide +kernel
theorem dL_law_2055 : decode cL_law 2055 = .ok (.iload 4, 2) := by decide +kernel
theorem dL_law_2057 : decode cL_law 2057 = .ok (.iconst 3, 1) := by decide +kernel
theorem dL_law_2058 : decode cL_law 2058 = .ok (.iadd, 1) := by decide +kernel
theorem dL_law_2059 : decode cL_law 2059 = .ok (.iaload, 1) := by decide +kernel
theorem dL_law_2060 : decode cL_law 2060 = .ok (.aload_n 3, 1) := by decide +kernel
theorem dL_law_2061 : decode cL_law 2061 = .ok (.invokestatic 227, 3) := by decide +kernel
theorem dL_law_2064 : decode cL_law 2064 = .ok (.istore 5, 2) := by decide +kernel
theorem dL_law_2066 : decode cL_law 2066 = .ok (.aload_n 2, 1) := by decide +kernel
theorem dL_law_2067 : decode cL_law 2067 = .ok (.aload_n 0, 1) := by decide +kernel
theorem dL_law_2068 : decode cL_law 2068 = .ok (.iload 4, 2) := by decide +kernel
theorem dL_law_2070 : decode cL_law 2070 = .ok (.iconst 1, 1) := by decide +kernel
theorem dL_law_2071 : decode cL_law 2071 = .ok (.iadd, 1) := by decide +kernel
theorem dL_law_2072 : decode cL_law 2072 = .ok (.iaload, 1) := by decide +kernel
theorem dL_law_2073 : decode cL_law 2073 = .ok (.aload_n 0, 1) := by decide +kernel
theorem dL_law_2074 : decode cL_law 2074 = .ok (.iload 4, 2) := by decide +kernel
theorem dL_law_2076 : decode cL_law 2076 = .ok (.iconst 2, 1) := by decide +kernel
theorem dL_law_2077 : decode cL_law 2077 = .ok (.iadd, 1) := by decide +kernel
theorem dL_law_2078 : decode cL_law 2078 = .ok (.iaload, 1) := by decide +kernel
theorem dL_law_2079 : decode cL_law 2079 = .ok (.aload_n 0, 1) := by decide +kernel
theorem dL_law_2080 : decode cL_law 2080 = .ok (.iload 4, 2) := by decide +kernel
theorem dL_law_2082 : decode cL_law 2082 = .ok (.iconst 3, 1) := by decide +kernel
theorem dL_law_2083 : decode cL_law 2083 = .ok (.iadd, 1) := by decide +kernel
theorem dL_law_2084 : decode cL_law 2084 = .ok (.iaload, 1) := by decide +kernel
theorem dL_law_2085 : decode cL_law 2085 = .ok (.invokevirtual 229, 3) := by decide +kernel
theorem dL_law_2088 : decode cL_law 2088 = .ok (.istore 6, 2) := by decide +kernel
theorem dL_law_2090 : decode cL_law 2090 = .ok (.aload_n 2, 1) := by decide +kernel
theorem dL_law_2091 : decode cL_law 2091 = .ok (.invokevirtual 125, 3) := by decide +kernel
theorem dL_law_2094 : decode cL_law 2094 = .ok (.iload 5, 2) := by decide +kernel
theorem dL_law_2096 : decode cL_law 2096 = .ok (.if_icmp .eq 5, 3) := by decide +kernel
theorem dL_law_2099 : decode cL_law 2099 = .ok (.iconst 0, 1) := by decide +kernel
theorem dL_law_2100 : decode cL_law 2100 = .ok (.ireturn, 1) := by decide +kernel
theorem dL_law_2101 : decode cL_law 2101 = .ok (.iload 5, 2) := by decide +kernel
theorem dL_law_2103 : decode cL_law 2103 = .ok (.ifCond .ne 15, 3) := by decide +kernel
theorem dL_law_2106 : decode cL_law 2106 = .ok (.aload_n 3, 1) := by decide +kernel
theorem dL_law_2107 : decode cL_law 2107 = .ok (.iconst 0, 1) := by decide +kernel
theorem dL_law_2108 : decode cL_law 2108 = .ok (.laload, 1) := by decide +kernel
theorem dL_law_2109 : decode cL_law 2109 = .ok (.iload 6, 2) := by decide +kernel
theorem dL_law_2111 : decode cL_law 2111 = .ok (.i2l, 1) := by decide +kernel
theorem dL_law_2112 : decode cL_law 2112 = .ok (.lcmp, 1) := by decide +kernel
theorem dL_law_2113 : decode cL_law 2113 = .ok (.ifCond .eq 5, 3) := by decide +kernel
theorem dL_law_2116 : decode cL_law 2116 = .ok (.iconst 0, 1) := by decide +kernel
theorem dL_law_2117 : decode cL_law 2117 = .ok (.ireturn, 1) := by decide +kernel
theorem dL_law_2118 : decode cL_law 2118 = .ok (.goto 412, 3) := by decide +kernel
theorem dL_law_2121 : decode cL_law 2121 = .ok (.aload_n 1, 1) := by decide +kernel
theorem dL_law_2122 : decode cL_law 2122 = .ok (.aload_n 0, 1) := by decide +kernel
theorem dL_law_2123 : decode cL_law 2123 = .ok (.iload 4, 2) := by decide +kernel
theorem dL_law_2125 : decode cL_law 2125 = .ok (.iconst 1, 1) := by decide +kernel
theorem dL_law_2126 : decode cL_law 2126 = .ok (.iadd, 1) := by decide +kernel
theorem dL_law_2127 : decode cL_law 2127 = .ok (.iaload, 1) := by decide +kernel
theorem dL_law_2128 : decode cL_law 2128 = .ok (.aload_n 0, 1) := by decide +kernel
theorem dL_law_2129 : decode cL_law 2129 = .ok (.iload 4, 2) := by decide +kernel
theorem dL_law_2131 : decode cL_law 2131 = .ok (.iconst 2, 1) := by decide +kernel
theorem dL_law_2132 : decode cL_law 2132 = .ok (.iadd, 1) := by decide +kernel
theorem dL_law_2133 : decode cL_law 2133 = .ok (.iaload, 1) := by decide +kernel
theorem dL_law_2134 : decode cL_law 2134 = .ok (.aload_n 3, 1) := by decide +kernel
theorem dL_law_2135 : decode cL_law 2135 = .ok (.invokestatic 230, 3) := by decide +kernel
theorem dL_law_2138 : decode cL_law 2138 = .ok (.istore 5, 2) := by decide +kernel
theorem dL_law_2140 : decode cL_law 2140 = .ok (.aload_n 2, 1) := by decide +kernel
theorem dL_law_2141 : decode cL_law 2141 = .ok (.aload_n 0, 1) := by decide +kernel
theorem dL_law_2142 : decode cL_law 2142 = .ok (.iload 4, 2) := by decide +kernel
theorem dL_law_2144 : decode cL_law 2144 = .ok (.iconst 1, 1) := by decide +kernel
theorem dL_law_2145 : decode cL_law 2145 = .ok (.iadd, 1) := by decide +kernel
theorem dL_law_2146 : decode cL_law 2146 = .ok (.iaload, 1) := by decide +kernel
theorem dL_law_2147 : decode cL_law 2147 = .ok (.aload_n 0, 1) := by decide +kernel
theorem dL_law_2148 : decode cL_law 2148 = .ok (.iload 4, 2) := by decide +kernel
theorem dL_law_2150 : decode cL_law 2150 = .ok (.iconst 2, 1) := by decide +kernel
theorem dL_law_2151 : decode cL_law 2151 = .ok (.iadd, 1) := by decide +kernel
theorem dL_law_2152 : decode cL_law 2152 = .ok (.iaload, 1) := by decide +kernel
theorem dL_law_2153 : decode cL_law 2153 = .ok (.invokevirtual 232, 3) := by decide +kernel
theorem dL_law_2156 : decode cL_law 2156 = .ok (.istore 6, 2) := by decide +kernel
theorem dL_law_2158 : decode cL_law 2158 = .ok (.aload_n 2, 1) := by decide +kernel
theorem dL_law_2159 : decode cL_law 2159 = .ok (.invokevirtual 125, 3) := by decide +kernel
theorem dL_law_2162 : decode cL_law 2162 = .ok (.iload 5, 2) := by decide +kernel
theorem dL_law_2164 : decode cL_law 2164 = .ok (.if_icmp .eq 5, 3) := by decide +kernel
theorem dL_law_2167 : decode cL_law 2167 = .ok (.iconst 0, 1) := by decide +kernel
theorem dL_law_2168 : decode cL_law 2168 = .ok (.ireturn, 1) := by decide +kernel
theorem dL_law_2169 : decode cL_law 2169 = .ok (.iload 5, 2) := by decide +kernel
theorem dL_law_2171 : decode cL_law 2171 = .ok (.ifCond .ne 15, 3) := by decide +kernel
theorem dL_law_2174 : decode cL_law 2174 = .ok (.aload_n 3, 1) := by decide +kernel
theorem dL_law_2175 : decode cL_law 2175 = .ok (.iconst 0, 1) := by decide +kernel
theorem dL_law_2176 : decode cL_law 2176 = .ok (.laload, 1) := by decide +kernel
theorem dL_law_2177 : decode cL_law 2177 = .ok (.iload 6, 2) := by decide +kernel
theorem dL_law_2179 : decode cL_law 2179 = .ok (.i2l, 1) := by decide +kernel
theorem dL_law_2180 : decode cL_law 2180 = .ok (.lcmp, 1) := by decide +kernel
theorem dL_law_2181 : decode cL_law 2181 = .ok (.ifCond .eq 5, 3) := by decide +kernel
theorem dL_law_2184 : decode cL_law 2184 = .ok (.iconst 0, 1) := by decide +kernel
theorem dL_law_2185 : decode cL_law 2185 = .ok (.ireturn, 1) := by decide +kernel
theorem dL_law_2186 : decode cL_law 2186 = .ok (.goto 344, 3) := by decide +kernel
theorem dL_law_2189 : decode cL_law 2189 = .ok (.aload_n 1, 1) := by decide +kernel
theorem dL_law_2190 : decode cL_law 2190 = .ok (.aload_n 0, 1) := by decide +kernel
theorem dL_law_2191 : decode cL_law 2191 = .ok (.iload 4, 2) := by decide +kernel
theorem dL_law_2193 : decode cL_law 2193 = .ok (.iconst 1, 1) := by decide +kernel
theorem dL_law_2194 : decode cL_law 2194 = .ok (.iadd, 1) := by decide +kernel
theorem dL_law_2195 : decode cL_law 2195 = .ok (.iaload, 1) := by decide +kernel
theorem dL_law_2196 : decode cL_law 2196 = .ok (.aload_n 0, 1) := by decide +kernel
theorem dL_law_2197 : decode cL_law 2197 = .ok (.iload 4, 2) := by decide +kernel
theorem dL_law_2199 : decode cL_law 2199 = .ok (.iconst 2, 1) := by decide +kernel
theorem dL_law_2200 : decode cL_law 2200 = .ok (.iadd, 1) := by decide +kernel
theorem dL_law_2201 : decode cL_law 2201 = .ok (.iaload, 1) := by decide +kernel
theorem dL_law_2202 : decode cL_law 2202 = .ok (.aload_n 3, 1) := by decide +kernel
theorem dL_law_2203 : decode cL_law 2203 = .ok (.invokestatic 233, 3) := by decide +kernel
theorem dL_law_2206 : decode cL_law 2206 = .ok (.istore 5, 2) := by decide +kernel
theorem dL_law_2208 : decode cL_law 2208 = .ok (.aload_n 2, 1) := by decide +kernel
theorem dL_law_2209 : decode cL_law 2209 = .ok (.aload_n 0, 1) := by decide +kernel
theorem dL_law_2210 : decode cL_law 2210 = .ok (.iload 4, 2) := by decide +kernel
theorem dL_law_2212 : decode cL_law 2212 = .ok (.iconst 1, 1) := by decide +kernel
theorem dL_law_2213 : decode cL_law 2213 = .ok (.iadd, 1) := by decide +kernel
theorem dL_law_2214 : decode cL_law 2214 = .ok (.iaload, 1) := by decide +kernel
theorem dL_law_2215 : decode cL_law 2215 = .ok (.aload_n 0, 1) := by decide +kernel
theorem dL_law_2216 : decode cL_law 2216 = .ok (.iload 4, 2) := by decide +kernel
theorem dL_law_2218 : decode cL_law 2218 = .ok (.iconst 2, 1) := by decide +kernel
theorem dL_law_2219 : decode cL_law 2219 = .ok (.iadd, 1) := by decide +kernel
theorem dL_law_2220 : decode cL_law 2220 = .ok (.iaload, 1) := by decide +kernel
theorem dL_law_2221 : decode cL_law 2221 = .ok (.invokevirtual 235, 3) := by decide +kernel
theorem dL_law_2224 : decode cL_law 2224 = .ok (.istore 6, 2) := by decide +kernel
theorem dL_law_2226 : decode cL_law 2226 = .ok (.aload_n 2, 1) := by decide +kernel
theorem dL_law_2227 : decode cL_law 2227 = .ok (.invokevirtual 125, 3) := by decide +kernel
theorem dL_law_2230 : decode cL_law 2230 = .ok (.iload 5, 2) := by decide +kernel
theorem dL_law_2232 : decode cL_law 2232 = .ok (.if_icmp .eq 5, 3) := by decide +kernel
theorem dL_law_2235 : decode cL_law 2235 = .ok (.iconst 0, 1) := by decide +kernel
theorem dL_law_2236 : decode cL_law 2236 = .ok (.ireturn, 1) := by decide +kernel
theorem dL_law_2237 : decode cL_law 2237 = .ok (.iload 5, 2) := by decide +kernel
theorem dL_law_2239 : decode cL_law 2239 = .ok (.ifCond .ne 15, 3) := by decide +kernel
theorem dL_law_2242 : decode cL_law 2242 = .ok (.aload_n 3, 1) := by decide +kernel
theorem dL_law_2243 : decode cL_law 2243 = .ok (.iconst 0, 1) := by decide +kernel
theorem dL_law_2244 : decode cL_law 2244 = .ok (.laload, 1) := by decide +kernel
theorem dL_law_2245 : decode cL_law 2245 = .ok (.iload 6, 2) := by decide +kernel
theorem dL_law_2247 : decode cL_law 2247 = .ok (.i2l, 1) := by decide +kernel
theorem dL_law_2248 : decode cL_law 2248 = .ok (.lcmp, 1) := by decide +kernel
theorem dL_law_2249 : decode cL_law 2249 = .ok (.ifCond .eq 5, 3) := by decide +kernel
theorem dL_law_2252 : decode cL_law 2252 = .ok (.iconst 0, 1) := by decide +kernel
theorem dL_law_2253 : decode cL_law 2253 = .ok (.ireturn, 1) := by decide +kernel
theorem dL_law_2254 : decode cL_law 2254 = .ok (.goto 276, 3) := by decide +kernel
theorem dL_law_2257 : decode cL_law 2257 = .ok (.aload_n 1, 1) := by decide +kernel
theorem dL_law_2258 : decode cL_law 2258 = .ok (.invokevirtual 236, 3) := by decide +kernel
theorem dL_law_2261 : decode cL_law 2261 = .ok (.aload_n 2, 1) := by decide +kernel
theorem dL_law_2262 : decode cL_law 2262 = .ok (.invokevirtual 239, 3) := by decide +kernel
theorem dL_law_2265 : decode cL_law 2265 = .ok (.if_icmp .eq 265, 3) := by decide +kernel
theorem dL_law_2268 : decode cL_law 2268 = .ok (.iconst 0, 1) := by decide +kernel
theorem dL_law_2269 : decode cL_law 2269 = .ok (.ireturn, 1) := by decide +kernel
theorem dL_law_2270 : decode cL_law 2270 = .ok (.aload_n 1, 1) := by decide +kernel
theorem dL_law_2271 : decode cL_law 2271 = .ok (.aload_n 0, 1) := by decide +kernel
theorem dL_law_2272 : decode cL_law 2272 = .ok (.iload 4, 2) := by decide +kernel
theorem dL_law_2274 : decode cL_law 2274 = .ok (.iconst 1, 1) := by decide +kernel
theorem dL_law_2275 : decode cL_law 2275 = .ok (.iadd, 1) := by decide +kernel
theorem dL_law_2276 : decode cL_law 2276 = .ok (.iaload, 1) := by decide +kernel
theorem dL_law_2277 : decode cL_law 2277 = .ok (.aload_n 3, 1) := by decide +kernel
theorem dL_law_2278 : decode cL_law 2278 = .ok (.invokestatic 240, 3) := by decide +kernel
theorem dL_law_2281 : decode cL_law 2281 = .ok (.istore 5, 2) := by decide +kernel
theorem dL_law_2283 : decode cL_law 2283 = .ok (.aload_n 2, 1) := by decide +kernel
theorem dL_law_2284 : decode cL_law 2284 = .ok (.aload_n 0, 1) := by decide +kernel
theorem dL_law_2285 : decode cL_law 2285 = .ok (.iload 4, 2) := by decide +kernel
theorem dL_law_2287 : decode cL_law 2287 = .ok (.iconst 1, 1) := by decide +kernel
theorem dL_law_2288 : decode cL_law 2288 = .ok (.iadd, 1) := by decide +kernel
theorem dL_law_2289 : decode cL_law 2289 = .ok (.iaload, 1) := by decide +kernel
theorem dL_law_2290 : decode cL_law 2290 = .ok (.invokevirtual 242, 3) := by decide +kernel
theorem dL_law_2293 : decode cL_law 2293 = .ok (.istore 6, 2) := by decide +kernel
theorem dL_law_2295 : decode cL_law 2295 = .ok (.aload_n 2, 1) := by decide +kernel
theorem dL_law_2296 : decode cL_law 2296 = .ok (.invokevirtual 125, 3) := by decide +kernel
theorem dL_law_2299 : decode cL_law 2299 = .ok (.iload 5, 2) := by decide +kernel
theorem dL_law_2301 : decode cL_law 2301 = .ok (.if_icmp .eq 5, 3) := by decide +kernel
theorem dL_law_2304 : decode cL_law 2304 = .ok (.iconst 0, 1) := by decide +kernel
theorem dL_law_2305 : decode cL_law 2305 = .ok (.ireturn, 1) := by decide +kernel
theorem dL_law_2306 : decode cL_law 2306 = .ok (.iload 5, 2) := by decide +kernel
theorem dL_law_2308 : decode cL_law 2308 = .ok (.ifCond .ne 15, 3) := by decide +kernel
theorem dL_law_2311 : decode cL_law 2311 = .ok (.aload_n 3, 1) := by decide +kernel
theorem dL_law_2312 : decode cL_law 2312 = .ok (.iconst 0, 1) := by decide +kernel
theorem dL_law_2313 : decode cL_law 2313 = .ok (.laload, 1) := by decide +kernel
theorem dL_law_2314 : decode cL_law 2314 = .ok (.iload 6, 2) := by decide +kernel
theorem dL_law_2316 : decode cL_law 2316 = .ok (.i2l, 1) := by decide +kernel
theorem dL_law_2317 : decode cL_law 2317 = .ok (.lcmp, 1) := by decide +kernel
theorem dL_law_2318 : decode cL_law 2318 = .ok (.ifCond .eq 5, 3) := by decide +kernel
theorem dL_law_2321 : decode cL_law 2321 = .ok (.iconst 0, 1) := by decide +kernel
theorem dL_law_2322 : decode cL_law 2322 = .ok (.ireturn, 1) := by decide +kernel
theorem dL_law_2323 : decode cL_law 2323 = .ok (.goto 207, 3) := by decide +kernel
theorem dL_law_2326 : decode cL_law 2326 = .ok (.aload_n 1, 1) := by decide +kernel
theorem dL_law_2327 : decode cL_law 2327 = .ok (.aload_n 0, 1) := by decide +kernel
theorem dL_law_2328 : decode cL_law 2328 = .ok (.iload 4, 2) := by decide +kernel
theorem dL_law_2330 : decode cL_law 2330 = .ok (.iconst 1, 1) := by decide +kernel
theorem dL_law_2331 : decode cL_law 2331 = .ok (.iadd, 1) := by decide +kernel
theorem dL_law_2332 : decode cL_law 2332 = .ok (.iaload, 1) := by decide +kernel
theorem dL_law_2333 : decode cL_law 2333 = .ok (.aload_n 0, 1) := by decide +kernel
theorem dL_law_2334 : decode cL_law 2334 = .ok (.iload 4, 2) := by decide +kernel
theorem dL_law_2336 : decode cL_law 2336 = .ok (.iconst 2, 1) := by decide +kernel
theorem dL_law_2337 : decode cL_law 2337 = .ok (.iadd, 1) := by decide +kernel
theorem dL_law_2338 : decode cL_law 2338 = .ok (.iaload, 1) := by decide +kernel
theorem dL_law_2339 : decode cL_law 2339 = .ok (.aload_n 3, 1) := by decide +kernel
theorem dL_law_2340 : decode cL_law 2340 = .ok (.invokestatic 243, 3) := by decide +kernel
theorem dL_law_2343 : decode cL_law 2343 = .ok (.istore 5, 2) := by decide +kernel
theorem dL_law_2345 : decode cL_law 2345 = .ok (.aload_n 2, 1) := by decide +kernel
theorem dL_law_2346 : decode cL_law 2346 = .ok (.aload_n 0, 1) := by decide +kernel
theorem dL_law_2347 : decode cL_law 2347 = .ok (.iload 4, 2) := by decide +kernel
theorem dL_law_2349 : decode cL_law 2349 = .ok (.iconst 1, 1) := by decide +kernel
theorem dL_law_2350 : decode cL_law 2350 = .ok (.iadd, 1) := by decide +kernel
theorem dL_law_2351 : decode cL_law 2351 = .ok (.iaload, 1) := by decide +kernel
theorem dL_law_2352 : decode cL_law 2352 = .ok (.aload_n 0, 1) := by decide +kernel
theorem dL_law_2353 : decode cL_law 2353 = .ok (.iload 4, 2) := by decide +kernel
theorem dL_law_2355 : decode cL_law 2355 = .ok (.iconst 2, 1) := by decide +kernel
theorem dL_law_2356 : decode cL_law 2356 = .ok (.iadd, 1) := by decide +kernel
theorem dL_law_2357 : decode cL_law 2357 = .ok (.iaload, 1) := by decide +kernel
theorem dL_law_2358 : decode cL_law 2358 = .ok (.invokevirtual 245, 3) := by decide +kernel
theorem dL_law_2361 : decode cL_law 2361 = .ok (.istore 6, 2) := by decide +kernel
theorem dL_law_2363 : decode cL_law 2363 = .ok (.aload_n 2, 1) := by decide +kernel
theorem dL_law_2364 : decode cL_law 2364 = .ok (.invokevirtual 125, 3) := by decide +kernel
theorem dL_law_2367 : decode cL_law 2367 = .ok (.iload 5, 2) := by decide +kernel
theorem dL_law_2369 : decode cL_law 2369 = .ok (.if_icmp .eq 5, 3) := by decide +kernel
theorem dL_law_2372 : decode cL_law 2372 = .ok (.iconst 0, 1) := by decide +kernel
theorem dL_law_2373 : decode cL_law 2373 = .ok (.ireturn, 1) := by decide +kernel
theorem dL_law_2374 : decode cL_law 2374 = .ok (.iload 5, 2) := by decide +kernel
theorem dL_law_2376 : decode cL_law 2376 = .ok (.ifCond .ne 15, 3) := by decide +kernel
theorem dL_law_2379 : decode cL_law 2379 = .ok (.aload_n 3, 1) := by decide +kernel
theorem dL_law_2380 : decode cL_law 2380 = .ok (.iconst 0, 1) := by decide +kernel
theorem dL_law_2381 : decode cL_law 2381 = .ok (.laload, 1) := by decide +kernel
theorem dL_law_2382 : decode cL_law 2382 = .ok (.iload 6, 2) := by decide +kernel
theorem dL_law_2384 : decode cL_law 2384 = .ok (.i2l, 1) := by decide +kernel
theorem dL_law_2385 : decode cL_law 2385 = .ok (.lcmp, 1) := by decide +kernel
theorem dL_law_2386 : decode cL_law 2386 = .ok (.ifCond .eq 5, 3) := by decide +kernel
theorem dL_law_2389 : decode cL_law 2389 = .ok (.iconst 0, 1) := by decide +kernel
theorem dL_law_2390 : decode cL_law 2390 = .ok (.ireturn, 1) := by decide +kernel
theorem dL_law_2391 : decode cL_law 2391 = .ok (.goto 139, 3) := by decide +kernel
theorem dL_law_2394 : decode cL_law 2394 = .ok (.aload_n 1, 1) := by decide +kernel
theorem dL_law_2395 : decode cL_law 2395 = .ok (.aload_n 0, 1) := by decide +kernel
theorem dL_law_2396 : decode cL_law 2396 = .ok (.iload 4, 2) := by decide +kernel
theorem dL_law_2398 : decode cL_law 2398 = .ok (.iconst 1, 1) := by decide +kernel
theorem dL_law_2399 : decode cL_law 2399 = .ok (.iadd, 1) := by decide +kernel
theorem dL_law_2400 : decode cL_law 2400 = .ok (.iaload, 1) := by decide +kernel
theorem dL_law_2401 : decode cL_law 2401 = .ok (.aload_n 3, 1) := by decide +kernel
theorem dL_law_2402 : decode cL_law 2402 = .ok (.invokestatic 246, 3) := by decide +kernel
theorem dL_law_2405 : decode cL_law 2405 = .ok (.istore 5, 2) := by decide +kernel
theorem dL_law_2407 : decode cL_law 2407 = .ok (.aload_n 2, 1) := by decide +kernel
theorem dL_law_2408 : decode cL_law 2408 = .ok (.aload_n 0, 1) := by decide +kernel
theorem dL_law_2409 : decode cL_law 2409 = .ok (.iload 4, 2) := by decide +kernel
theorem dL_law_2411 : decode cL_law 2411 = .ok (.iconst 1, 1) := by decide +kernel
theorem dL_law_2412 : decode cL_law 2412 = .ok (.iadd, 1) := by decide +kernel
theorem dL_law_2413 : decode cL_law 2413 = .ok (.iaload, 1) := by decide +kernel
theorem dL_law_2414 : decode cL_law 2414 = .ok (.invokevirtual 248, 3) := by decide +kernel
theorem dL_law_2417 : decode cL_law 2417 = .ok (.istore 6, 2) := by decide +kernel
theorem dL_law_2419 : decode cL_law 2419 = .ok (.aload_n 2, 1) := by decide +kernel
theorem dL_law_2420 : decode cL_law 2420 = .ok (.invokevirtual 125, 3) := by decide +kernel
theorem dL_law_2423 : decode cL_law 2423 = .ok (.iload 5, 2) := by decide +kernel
theorem dL_law_2425 : decode cL_law 2425 = .ok (.if_icmp .eq 5, 3) := by decide +kernel
theorem dL_law_2428 : decode cL_law 2428 = .ok (.iconst 0, 1) := by decide +kernel
theorem dL_law_2429 : decode cL_law 2429 = .ok (.ireturn, 1) := by decide +kernel
theorem dL_law_2430 : decode cL_law 2430 = .ok (.iload 5, 2) := by decide +kernel
theorem dL_law_2432 : decode cL_law 2432 = .ok (.ifCond .ne 15, 3) := by decide +kernel
theorem dL_law_2435 : decode cL_law 2435 = .ok (.aload_n 3, 1) := by decide +kernel
theorem dL_law_2436 : decode cL_law 2436 = .ok (.iconst 0, 1) := by decide +kernel
theorem dL_law_2437 : decode cL_law 2437 = .ok (.laload, 1) := by decide +kernel
theorem dL_law_2438 : decode cL_law 2438 = .ok (.iload 6, 2) := by decide +kernel
theorem dL_law_2440 : decode cL_law 2440 = .ok (.i2l, 1) := by decide +kernel
theorem dL_law_2441 : decode cL_law 2441 = .ok (.lcmp, 1) := by decide +kernel
theorem dL_law_2442 : decode cL_law 2442 = .ok (.ifCond .eq 5, 3) := by decide +kernel
theorem dL_law_2445 : decode cL_law 2445 = .ok (.iconst 0, 1) := by decide +kernel
theorem dL_law_2446 : decode cL_law 2446 = .ok (.ireturn, 1) := by decide +kernel
theorem dL_law_2447 : decode cL_law 2447 = .ok (.goto 83, 3) := by decide +kernel
theorem dL_law_2450 : decode cL_law 2450 = .ok (.aload_n 1, 1) := by decide +kernel
theorem dL_law_2451 : decode cL_law 2451 = .ok (.aload_n 0, 1) := by decide +kernel
theorem dL_law_2452 : decode cL_law 2452 = .ok (.iload 4, 2) := by decide +kernel
theorem dL_law_2454 : decode cL_law 2454 = .ok (.iconst 1, 1) := by decide +kernel
theorem dL_law_2455 : decode cL_law 2455 = .ok (.iadd, 1) := by decide +kernel
theorem dL_law_2456 : decode cL_law 2456 = .ok (.iaload, 1) := by decide +kernel
theorem dL_law_2457 : decode cL_law 2457 = .ok (.aload_n 3, 1) := by decide +kernel
theorem dL_law_2458 : decode cL_law 2458 = .ok (.invokestatic 249, 3) := by decide +kernel
theorem dL_law_2461 : decode cL_law 2461 = .ok (.istore 5, 2) := by decide +kernel
theorem dL_law_2463 : decode cL_law 2463 = .ok (.aload_n 2, 1) := by decide +kernel
theorem dL_law_2464 : decode cL_law 2464 = .ok (.aload_n 0, 1) := by decide +kernel
theorem dL_law_2465 : decode cL_law 2465 = .ok (.iload 4, 2) := by decide +kernel
theorem dL_law_2467 : decode cL_law 2467 = .ok (.iconst 1, 1) := by decide +kernel
theorem dL_law_2468 : decode cL_law 2468 = .ok (.iadd, 1) := by decide +kernel
theorem dL_law_2469 : decode cL_law 2469 = .ok (.iaload, 1) := by decide +kernel
theorem dL_law_2470 : decode cL_law 2470 = .ok (.invokevirtual 251, 3) := by decide +kernel
theorem dL_law_2473 : decode cL_law 2473 = .ok (.istore 6, 2) := by decide +kernel
theorem dL_law_2475 : decode cL_law 2475 = .ok (.aload_n 2, 1) := by decide +kernel
theorem dL_law_2476 : decode cL_law 2476 = .ok (.invokevirtual 125, 3) := by decide +kernel
theorem dL_law_2479 : decode cL_law 2479 = .ok (.iload 5, 2) := by decide +kernel
theorem dL_law_2481 : decode cL_law 2481 = .ok (.if_icmp .eq 5, 3) := by decide +kernel
theorem dL_law_2484 : decode cL_law 2484 = .ok (.iconst 0, 1) := by decide +kernel
theorem dL_law_2485 : decode cL_law 2485 = .ok (.ireturn, 1) := by decide +kernel
theorem dL_law_2486 : decode cL_law 2486 = .ok (.iload 5, 2) := by decide +kernel
theorem dL_law_2488 : decode cL_law 2488 = .ok (.ifCond .ne 15, 3) := by decide +kernel
theorem dL_law_2491 : decode cL_law 2491 = .ok (.aload_n 3, 1) := by decide +kernel
theorem dL_law_2492 : decode cL_law 2492 = .ok (.iconst 0, 1) := by decide +kernel
theorem dL_law_2493 : decode cL_law 2493 = .ok (.laload, 1) := by decide +kernel
theorem dL_law_2494 : decode cL_law 2494 = .ok (.iload 6, 2) := by decide +kernel
theorem dL_law_2496 : decode cL_law 2496 = .ok (.i2l, 1) := by decide +kernel
theorem dL_law_2497 : decode cL_law 2497 = .ok (.lcmp, 1) := by decide +kernel
theorem dL_law_2498 : decode cL_law 2498 = .ok (.ifCond .eq 5, 3) := by decide +kernel
theorem dL_law_2501 : decode cL_law 2501 = .ok (.iconst 0, 1) := by decide +kernel
theorem dL_law_2502 : decode cL_law 2502 = .ok (.ireturn, 1) := by decide +kernel
theorem dL_law_2503 : decode cL_law 2503 = .ok (.goto 27, 3) := by decide +kernel
theorem dL_law_2506 : decode cL_law 2506 = .ok (.aload_n 1, 1) := by decide +kernel
theorem dL_law_2507 : decode cL_law 2507 = .ok (.invokevirtual 252, 3) := by decide +kernel
theorem dL_law_2510 : decode cL_law 2510 = .ok (.aload_n 2, 1) := by decide +kernel
theorem dL_law_2511 : decode cL_law 2511 = .ok (.invokevirtual 255, 3) := by decide +kernel
theorem dL_law_2514 : decode cL_law 2514 = .ok (.goto 16, 3) := by decide +kernel
theorem dL_law_2517 : decode cL_law 2517 = .ok (.aload_n 1, 1) := by decide +kernel
theorem dL_law_2518 : decode cL_law 2518 = .ok (.invokevirtual 256, 3) := by decide +kernel
theorem dL_law_2521 : decode cL_law 2521 = .ok (.aload_n 2, 1) := by decide +kernel
theorem dL_law_2522 : decode cL_law 2522 = .ok (.invokevirtual 260, 3) := by decide +kernel
theorem dL_law_2525 : decode cL_law 2525 = .ok (.if_icmp .eq 5, 3) := by decide +kernel
theorem dL_law_2528 : decode cL_law 2528 = .ok (.iconst 0, 1) := by decide +kernel
theorem dL_law_2529 : decode cL_law 2529 = .ok (.ireturn, 1) := by decide +kernel
theorem dL_law_2530 : decode cL_law 2530 = .ok (.iinc 4 6, 3) := by decide +kernel
theorem dL_law_2533 : decode cL_law 2533 = .ok (.goto (-2510), 3) := by decide +kernel
theorem dL_law_2536 : decode cL_law 2536 = .ok (.iconst 1, 1) := by decide +kernel
theorem dL_law_2537 : decode cL_law 2537 = .ok (.ireturn, 1) := by decide +kernel
