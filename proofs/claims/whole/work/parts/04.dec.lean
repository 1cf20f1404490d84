theorem dX4_ofOne_63 : decode cX4_ofOne 63 = .ok (.iload_n 1, 1) := by decide +kernel
theorem dX4_ofOne_64 : decode cX4_ofOne 64 = .ok (.iaload, 1) := by decide +kernel
theorem dX4_ofOne_65 : decode cX4_ofOne 65 = .ok (.ireturn, 1) := by decide +kernel
theorem dX4_ofOne_66 : decode cX4_ofOne 66 = .ok (.aload_n 0, 1) := by decide +kernel
theorem dX4_ofOne_67 : decode cX4_ofOne 67 = .ok (.getfield 21, 3) := by decide +kernel
theorem dX4_ofOne_70 : decode cX4_ofOne 70 = .ok (.iload_n 1, 1) := by decide +kernel
theorem dX4_ofOne_71 : decode cX4_ofOne 71 = .ok (.invokevirtual 348, 3) := by decide +kernel
theorem dX4_ofOne_74 : decode cX4_ofOne 74 = .ok (.ireturn, 1) := by decide +kernel
theorem dX4_ofOne_75 : decode cX4_ofOne 75 = .ok (.aload_n 0, 1) := by decide +kernel
theorem dX4_ofOne_76 : decode cX4_ofOne 76 = .ok (.getfield 21, 3) := by decide +kernel
theorem dX4_ofOne_79 : decode cX4_ofOne 79 = .ok (.getfield 351, 3) := by decide +kernel
theorem dX4_ofOne_82 : decode cX4_ofOne 82 = .ok (.iload_n 1, 1) := by decide +kernel
theorem dX4_ofOne_83 : decode cX4_ofOne 83 = .ok (.iaload, 1) := by decide +kernel
theorem dX4_ofOne_84 : decode cX4_ofOne 84 = .ok (.ireturn, 1) := by decide +kernel
theorem dX4_ofOne_85 : decode cX4_ofOne 85 = .ok (.aload_n 0, 1) := by decide +kernel
theorem dX4_ofOne_86 : decode cX4_ofOne 86 = .ok (.getfield 21, 3) := by decide +kernel
theorem dX4_ofOne_89 : decode cX4_ofOne 89 = .ok (.iload_n 1, 1) := by decide +kernel
theorem dX4_ofOne_90 : decode cX4_ofOne 90 = .ok (.invokevirtual 199, 3) := by decide +kernel
theorem dX4_ofOne_93 : decode cX4_ofOne 93 = .ok (.ifCond .eq 7, 3) := by decide +kernel
theorem dX4_ofOne_96 : decode cX4_ofOne 96 = .ok (.iconst 1, 1) := by decide +kernel
theorem dX4_ofOne_97 : decode cX4_ofOne 97 = .ok (.goto 4, 3) := by decide +kernel
theorem dX4_ofOne_100 : decode cX4_ofOne 100 = .ok (.iconst 0, 1) := by decide +kernel
theorem dX4_ofOne_101 : decode cX4_ofOne 101 = .ok (.ireturn, 1) := by decide +kernel
theorem dX4_thereOf_0 : decode cX4_thereOf 0 = .ok (.iconst 0, 1) := by decide +kernel
theorem dX4_thereOf_1 : decode cX4_thereOf 1 = .ok (.istore_n 1, 1) := by decide +kernel
theorem dX4_thereOf_2 : decode cX4_thereOf 2 = .ok (.iconst 0, 1) := by decide +kernel
theorem dX4_thereOf_3 : decode cX4_thereOf 3 = .ok (.istore_n 2, 1) := by decide +kernel
theorem dX4_thereOf_4 : decode cX4_thereOf 4 = .ok (.iload_n 2, 1) := by decide +kernel
theorem dX4_thereOf_5 : decode cX4_thereOf 5 = .ok (.aload_n 0, 1) := by decide +kernel
theorem dX4_thereOf_6 : decode cX4_thereOf 6 = .ok (.arraylength, 1) := by decide +kernel
theorem dX4_thereOf_7 : decode cX4_thereOf 7 = .ok (.if_icmp .ge 21, 3) := by decide +kernel
theorem dX4_thereOf_10 : decode cX4_thereOf 10 = .ok (.aload_n 0, 1) := by decide +kernel
theorem dX4_thereOf_11 : decode cX4_thereOf 11 = .ok (.iload_n 2, 1) := by decide +kernel
theorem dX4_thereOf_12 : decode cX4_thereOf 12 = .ok (.aaload, 1) := by decide +kernel
theorem dX4_thereOf_13 : decode cX4_thereOf 13 = .ok (.invokevirtual 89, 3) := by decide +kernel
theorem dX4_thereOf_16 : decode cX4_thereOf 16 = .ok (.ifCond .ne 6, 3) := by decide +kernel
theorem dX4_thereOf_19 : decode cX4_thereOf 19 = .ok (.iinc 1 1, 3) := by decide +kernel
theorem dX4_thereOf_22 : decode cX4_thereOf 22 = .ok (.iinc 2 1, 3) := by decide +kernel
theorem dX4_thereOf_25 : decode cX4_thereOf 25 = .ok (.goto (-21), 3) := by decide +kernel
theorem dX4_thereOf_28 : decode cX4_thereOf 28 = .ok (.iload_n 1, 1) := by decide +kernel
theorem dX4_thereOf_29 : decode cX4_thereOf 29 = .ok (.ireturn, 1) := by decide +kernel
theorem dX4_keptLands_0 : decode cX4_keptLands 0 = .ok (.iconst 0, 1) := by decide +kernel
theorem dX4_keptLands_1 : decode cX4_keptLands 1 = .ok (.istore_n 1, 1) := by decide +kernel
theorem dX4_keptLands_2 : decode cX4_keptLands 2 = .ok (.iconst 0, 1) := by decide +kernel
theorem dX4_keptLands_3 : decode cX4_keptLands 3 = .ok (.istore_n 2, 1) := by decide +kernel
theorem dX4_keptLands_4 : decode cX4_keptLands 4 = .ok (.iload_n 2, 1) := by decide +kernel
theorem dX4_keptLands_5 : decode cX4_keptLands 5 = .ok (.iconst 3, 1) := by decide +kernel
theorem dX4_keptLands_6 : decode cX4_keptLands 6 = .ok (.if_icmp .ge 24, 3) := by decide +kernel
theorem dX4_keptLands_9 : decode cX4_keptLands 9 = .ok (.aload_n 0, 1) := by decide +kernel
theorem dX4_keptLands_10 : decode cX4_keptLands 10 = .ok (.getfield 25, 3) := by decide +kernel
theorem dX4_keptLands_13 : decode cX4_keptLands 13 = .ok (.iload_n 2, 1) := by decide +kernel
theorem dX4_keptLands_14 : decode cX4_keptLands 14 = .ok (.aaload, 1) := by decide +kernel
theorem dX4_keptLands_15 : decode cX4_keptLands 15 = .ok (.invokevirtual 170, 3) := by decide +kernel
theorem dX4_keptLands_18 : decode cX4_keptLands 18 = .ok (.ifCond .eq 6, 3) := by decide +kernel
theorem dX4_keptLands_21 : decode cX4_keptLands 21 = .ok (.iinc 1 1, 3) := by decide +kernel
theorem dX4_keptLands_24 : decode cX4_keptLands 24 = .ok (.iinc 2 1, 3) := by decide +kernel
theorem dX4_keptLands_27 : decode cX4_keptLands 27 = .ok (.goto (-23), 3) := by decide +kernel
theorem dX4_keptLands_30 : decode cX4_keptLands 30 = .ok (.iload_n 1, 1) := by decide +kernel
theorem dX4_keptLands_31 : decode cX4_keptLands 31 = .ok (.ireturn, 1) := by decide +kernel
theorem dX4_nextSeated_0 : decode cX4_nextSeated 0 = .ok (.iconst (-1), 1) := by decide +kernel
theorem dX4_nextSeated_1 : decode cX4_nextSeated 1 = .ok (.istore_n 2, 1) := by decide +kernel
theorem dX4_nextSeated_2 : decode cX4_nextSeated 2 = .ok (.iconst 0, 1) := by decide +kernel
theorem dX4_nextSeated_3 : decode cX4_nextSeated 3 = .ok (.istore_n 3, 1) := by decide +kernel
theorem dX4_nextSeated_4 : decode cX4_nextSeated 4 = .ok (.iload_n 3, 1) := by decide +kernel
theorem dX4_nextSeated_5 : decode cX4_nextSeated 5 = .ok (.aload_n 0, 1) := by decide +kernel
theorem dX4_nextSeated_6 : decode cX4_nextSeated 6 = .ok (.getfield 21, 3) := by decide +kernel
theorem dX4_nextSeated_9 : decode cX4_nextSeated 9 = .ok (.getfield 124, 3) := by decide +kernel
theorem dX4_nextSeated_12 : decode cX4_nextSeated 12 = .ok (.if_icmp .ge 74, 3) := by decide +kernel
theorem dX4_nextSeated_15 : decode cX4_nextSeated 15 = .ok (.aload_n 0, 1) := by decide +kernel
theorem dX4_nextSeated_16 : decode cX4_nextSeated 16 = .ok (.getfield 21, 3) := by decide +kernel
theorem dX4_nextSeated_19 : decode cX4_nextSeated 19 = .ok (.iload_n 3, 1) := by decide +kernel
theorem dX4_nextSeated_20 : decode cX4_nextSeated 20 = .ok (.invokevirtual 199, 3) := by decide +kernel
theorem dX4_nextSeated_23 : decode cX4_nextSeated 23 = .ok (.ifCond .eq 57, 3) := by decide +kernel
theorem dX4_nextSeated_26 : decode cX4_nextSeated 26 = .ok (.aload_n 0, 1) := by decide +kernel
theorem dX4_nextSeated_27 : decode cX4_nextSeated 27 = .ok (.getfield 21, 3) := by decide +kernel
theorem dX4_nextSeated_30 : decode cX4_nextSeated 30 = .ok (.iload_n 3, 1) := by decide +kernel
theorem dX4_nextSeated_31 : decode cX4_nextSeated 31 = .ok (.invokevirtual 348, 3) := by decide +kernel
theorem dX4_nextSeated_34 : decode cX4_nextSeated 34 = .ok (.ifCond .le 46, 3) := by decide +kernel
theorem dX4_nextSeated_37 : decode cX4_nextSeated 37 = .ok (.iload_n 2, 1) := by decide +kernel
theorem dX4_nextSeated_38 : decode cX4_nextSeated 38 = .ok (.ifCond .lt 40, 3) := by decide +kernel
theorem dX4_nextSeated_41 : decode cX4_nextSeated 41 = .ok (.aload_n 0, 1) := by decide +kernel
theorem dX4_nextSeated_42 : decode cX4_nextSeated 42 = .ok (.getfield 21, 3) := by decide +kernel
theorem dX4_nextSeated_45 : decode cX4_nextSeated 45 = .ok (.iload_n 3, 1) := by decide +kernel
theorem dX4_nextSeated_46 : decode cX4_nextSeated 46 = .ok (.invokevirtual 348, 3) := by decide +kernel
theorem dX4_nextSeated_49 : decode cX4_nextSeated 49 = .ok (.aload_n 1, 1) := by decide +kernel
theorem dX4_nextSeated_50 : decode cX4_nextSeated 50 = .ok (.getfield 79, 3) := by decide +kernel
theorem dX4_nextSeated_53 : decode cX4_nextSeated 53 = .ok (.iload_n 2, 1) := by decide +kernel
theorem dX4_nextSeated_54 : decode cX4_nextSeated 54 = .ok (.iaload, 1) := by decide +kernel
theorem dX4_nextSeated_55 : decode cX4_nextSeated 55 = .ok (.iconst 1, 1) := by decide +kernel
theorem dX4_nextSeated_56 : decode cX4_nextSeated 56 = .ok (.iadd, 1) := by decide +kernel
theorem dX4_nextSeated_57 : decode cX4_nextSeated 57 = .ok (.imul, 1) := by decide +kernel
theorem dX4_nextSeated_58 : decode cX4_nextSeated 58 = .ok (.aload_n 0, 1) := by decide +kernel
theorem dX4_nextSeated_59 : decode cX4_nextSeated 59 = .ok (.getfield 21, 3) := by decide +kernel
theorem dX4_nextSeated_62 : decode cX4_nextSeated 62 = .ok (.iload_n 2, 1) := by decide +kernel
theorem dX4_nextSeated_63 : decode cX4_nextSeated 63 = .ok (.invokevirtual 348, 3) := by decide +kernel
theorem dX4_nextSeated_66 : decode cX4_nextSeated 66 = .ok (.aload_n 1, 1) := by decide +kernel
theorem dX4_nextSeated_67 : decode cX4_nextSeated 67 = .ok (.getfield 79, 3) := by decide +kernel
theorem dX4_nextSeated_70 : decode cX4_nextSeated 70 = .ok (.iload_n 3, 1) := by decide +kernel
theorem dX4_nextSeated_71 : decode cX4_nextSeated 71 = .ok (.iaload, 1) := by decide +kernel
theorem dX4_nextSeated_72 : decode cX4_nextSeated 72 = .ok (.iconst 1, 1) := by decide +kernel
theorem dX4_nextSeated_73 : decode cX4_nextSeated 73 = .ok (.iadd, 1) := by decide +kernel
theorem dX4_nextSeated_74 : decode cX4_nextSeated 74 = .ok (.imul, 1) := by decide +kernel
theorem dX4_nextSeated_75 : decode cX4_nextSeated 75 = .ok (.if_icmp .le 5, 3) := by decide +kernel
theorem dX4_nextSeated_78 : decode cX4_nextSeated 78 = .ok (.iload_n 3, 1) := by decide +kernel
theorem dX4_nextSeated_79 : decode cX4_nextSeated 79 = .ok (.istore_n 2, 1) := by decide +kernel
theorem dX4_nextSeated_80 : decode cX4_nextSeated 80 = .ok (.iinc 3 1, 3) := by decide +kernel
theorem dX4_nextSeated_83 : decode cX4_nextSeated 83 = .ok (.goto (-79), 3) := by decide +kernel
theorem dX4_nextSeated_86 : decode cX4_nextSeated 86 = .ok (.iload_n 2, 1) := by decide +kernel
theorem dX4_nextSeated_87 : decode cX4_nextSeated 87 = .ok (.ireturn, 1) := by decide +kernel
theorem dX4_votesByTurns_0 : decode cX4_votesByTurns 0 = .ok (.iload_n 1, 1) := by decide +kernel
theorem dX4_votesByTurns_1 : decode cX4_votesByTurns 1 = .ok (.ifCond .gt 11, 3) := by decide +kernel
theorem dX4_votesByTurns_4 : decode cX4_votesByTurns 4 = .ok (.aload_n 0, 1) := by decide +kernel
theorem dX4_votesByTurns_5 : decode cX4_votesByTurns 5 = .ok (.iload_n 3, 1) := by decide +kernel
theorem dX4_votesByTurns_6 : decode cX4_votesByTurns 6 = .ok (.iload 4, 2) := by decide +kernel
theorem dX4_votesByTurns_8 : decode cX4_votesByTurns 8 = .ok (.invokevirtual 173, 3) := by decide +kernel
theorem dX4_votesByTurns_11 : decode cX4_votesByTurns 11 = .ok (.ireturn, 1) := by decide +kernel
theorem dX4_votesByTurns_12 : decode cX4_votesByTurns 12 = .ok (.iload_n 2, 1) := by decide +kernel
theorem dX4_votesByTurns_13 : decode cX4_votesByTurns 13 = .ok (.ifCond .ne 7, 3) := by decide +kernel
theorem dX4_votesByTurns_16 : decode cX4_votesByTurns 16 = .ok (.iconst 1, 1) := by decide +kernel
theorem dX4_votesByTurns_17 : decode cX4_votesByTurns 17 = .ok (.goto 4, 3) := by decide +kernel
theorem dX4_votesByTurns_20 : decode cX4_votesByTurns 20 = .ok (.iconst 0, 1) := by decide +kernel
theorem dX4_votesByTurns_21 : decode cX4_votesByTurns 21 = .ok (.istore 5, 2) := by decide +kernel
theorem dX4_votesByTurns_23 : decode cX4_votesByTurns 23 = .ok (.aload_n 0, 1) := by decide +kernel
theorem dX4_votesByTurns_24 : decode cX4_votesByTurns 24 = .ok (.iload_n 1, 1) := by decide +kernel
theorem dX4_votesByTurns_25 : decode cX4_votesByTurns 25 = .ok (.iconst 1, 1) := by decide +kernel
theorem dX4_votesByTurns_26 : decode cX4_votesByTurns 26 = .ok (.isub, 1) := by decide +kernel
theorem dX4_votesByTurns_27 : decode cX4_votesByTurns 27 = .ok (.iload 5, 2) := by decide +kernel
theorem dX4_votesByTurns_29 : decode cX4_votesByTurns 29 = .ok (.iload_n 3, 1) := by decide +kernel
theorem dX4_votesByTurns_30 : decode cX4_votesByTurns 30 = .ok (.iload 4, 2) := by decide +kernel
theorem dX4_votesByTurns_32 : decode cX4_votesByTurns 32 = .ok (.invokestatic 263, 3) := by decide +kernel
theorem dX4_votesByTurns_35 : decode cX4_votesByTurns 35 = .ok (.istore 6, 2) := by decide +kernel
theorem dX4_votesByTurns_37 : decode cX4_votesByTurns 37 = .ok (.aload_n 0, 1) := by decide +kernel
theorem dX4_votesByTurns_38 : decode cX4_votesByTurns 38 = .ok (.iload_n 2, 1) := by decide +kernel
theorem dX4_votesByTurns_39 : decode cX4_votesByTurns 39 = .ok (.iconst 1, 1) := by decide +kernel
theorem dX4_votesByTurns_40 : decode cX4_votesByTurns 40 = .ok (.iload_n 3, 1) := by decide +kernel
theorem dX4_votesByTurns_41 : decode cX4_votesByTurns 41 = .ok (.iload 4, 2) := by decide +kernel
theorem dX4_votesByTurns_43 : decode cX4_votesByTurns 43 = .ok (.invokevirtual 188, 3) := by decide +kernel
theorem dX4_votesByTurns_46 : decode cX4_votesByTurns 46 = .ok (.ifCond .eq 50, 3) := by decide +kernel
theorem dX4_votesByTurns_49 : decode cX4_votesByTurns 49 = .ok (.iload_n 2, 1) := by decide +kernel
theorem dX4_votesByTurns_50 : decode cX4_votesByTurns 50 = .ok (.ifCond .ne 20, 3) := by decide +kernel
theorem dX4_votesByTurns_53 : decode cX4_votesByTurns 53 = .ok (.aload_n 0, 1) := by decide +kernel
theorem dX4_votesByTurns_54 : decode cX4_votesByTurns 54 = .ok (.iload_n 1, 1) := by decide +kernel
theorem dX4_votesByTurns_55 : decode cX4_votesByTurns 55 = .ok (.iconst 1, 1) := by decide +kernel
theorem dX4_votesByTurns_56 : decode cX4_votesByTurns 56 = .ok (.isub, 1) := by decide +kernel
theorem dX4_votesByTurns_57 : decode cX4_votesByTurns 57 = .ok (.iload 5, 2) := by decide +kernel
theorem dX4_votesByTurns_59 : decode cX4_votesByTurns 59 = .ok (.iload_n 3, 1) := by decide +kernel
theorem dX4_votesByTurns_60 : decode cX4_votesByTurns 60 = .ok (.iconst 1, 1) := by decide +kernel
theorem dX4_votesByTurns_61 : decode cX4_votesByTurns 61 = .ok (.isub, 1) := by decide +kernel
theorem dX4_votesByTurns_62 : decode cX4_votesByTurns 62 = .ok (.iload 4, 2) := by decide +kernel
theorem dX4_votesByTurns_64 : decode cX4_votesByTurns 64 = .ok (.invokestatic 263, 3) := by decide +kernel
theorem dX4_votesByTurns_67 : decode cX4_votesByTurns 67 = .ok (.goto 17, 3) := by decide +kernel
theorem dX4_votesByTurns_70 : decode cX4_votesByTurns 70 = .ok (.aload_n 0, 1) := by decide +kernel
theorem dX4_votesByTurns_71 : decode cX4_votesByTurns 71 = .ok (.iload_n 1, 1) := by decide +kernel
theorem dX4_votesByTurns_72 : decode cX4_votesByTurns 72 = .ok (.iconst 1, 1) := by decide +kernel
theorem dX4_votesByTurns_73 : decode cX4_votesByTurns 73 = .ok (.isub, 1) := by decide +kernel
theorem dX4_votesByTurns_74 : decode cX4_votesByTurns 74 = .ok (.iload 5, 2) := by decide +kernel
theorem dX4_votesByTurns_76 : decode cX4_votesByTurns 76 = .ok (.iload_n 3, 1) := by decide +kernel
theorem dX4_votesByTurns_77 : decode cX4_votesByTurns 77 = .ok (.iload 4, 2) := by decide +kernel
theorem dX4_votesByTurns_79 : decode cX4_votesByTurns 79 = .ok (.iconst 1, 1) := by decide +kernel
theorem dX4_votesByTurns_80 : decode cX4_votesByTurns 80 = .ok (.iadd, 1) := by decide +kernel
theorem dX4_votesByTurns_81 : decode cX4_votesByTurns 81 = .ok (.invokestatic 263, 3) := by decide +kernel
theorem dX4_votesByTurns_84 : decode cX4_votesByTurns 84 = .ok (.istore 7, 2) := by decide +kernel
theorem dX4_votesByTurns_86 : decode cX4_votesByTurns 86 = .ok (.iload_n 2, 1) := by decide +kernel
theorem dX4_votesByTurns_87 : decode cX4_votesByTurns 87 = .ok (.iload 6, 2) := by decide +kernel
theorem dX4_votesByTurns_89 : decode cX4_votesByTurns 89 = .ok (.iload 7, 2) := by decide +kernel
theorem dX4_votesByTurns_91 : decode cX4_votesByTurns 91 = .ok (.invokestatic 354, 3) := by decide +kernel
theorem dX4_votesByTurns_94 : decode cX4_votesByTurns 94 = .ok (.istore 6, 2) := by decide +kernel
theorem dX4_votesByTurns_96 : decode cX4_votesByTurns 96 = .ok (.aload_n 0, 1) := by decide +kernel
theorem dX4_votesByTurns_97 : decode cX4_votesByTurns 97 = .ok (.iload_n 2, 1) := by decide +kernel
theorem dX4_votesByTurns_98 : decode cX4_votesByTurns 98 = .ok (.iconst (-1), 1) := by decide +kernel
theorem dX4_votesByTurns_99 : decode cX4_votesByTurns 99 = .ok (.iload_n 3, 1) := by decide +kernel
theorem dX4_votesByTurns_100 : decode cX4_votesByTurns 100 = .ok (.iload 4, 2) := by decide +kernel
theorem dX4_votesByTurns_102 : decode cX4_votesByTurns 102 = .ok (.invokevirtual 188, 3) := by decide +kernel
theorem dX4_votesByTurns_105 : decode cX4_votesByTurns 105 = .ok (.ifCond .eq 50, 3) := by decide +kernel
theorem dX4_votesByTurns_108 : decode cX4_votesByTurns 108 = .ok (.iload_n 2, 1) := by decide +kernel
theorem dX4_votesByTurns_109 : decode cX4_votesByTurns 109 = .ok (.ifCond .ne 20, 3) := by decide +kernel
theorem dX4_votesByTurns_112 : decode cX4_votesByTurns 112 = .ok (.aload_n 0, 1) := by decide +kernel
theorem dX4_votesByTurns_113 : decode cX4_votesByTurns 113 = .ok (.iload_n 1, 1) := by decide +kernel
theorem dX4_votesByTurns_114 : decode cX4_votesByTurns 114 = .ok (.iconst 1, 1) := by decide +kernel
theorem dX4_votesByTurns_115 : decode cX4_votesByTurns 115 = .ok (.isub, 1) := by decide +kernel
theorem dX4_votesByTurns_116 : decode cX4_votesByTurns 116 = .ok (.iload 5, 2) := by decide +kernel
theorem dX4_votesByTurns_118 : decode cX4_votesByTurns 118 = .ok (.iload_n 3, 1) := by decide +kernel
theorem dX4_votesByTurns_119 : decode cX4_votesByTurns 119 = .ok (.iconst 1, 1) := by decide +kernel
theorem dX4_votesByTurns_120 : decode cX4_votesByTurns 120 = .ok (.iadd, 1) := by decide +kernel
theorem dX4_votesByTurns_121 : decode cX4_votesByTurns 121 = .ok (.iload 4, 2) := by decide +kernel
theorem dX4_votesByTurns_123 : decode cX4_votesByTurns 123 = .ok (.invokestatic 263, 3) := by decide +kernel
theorem dX4_votesByTurns_126 : decode cX4_votesByTurns 126 = .ok (.goto 17, 3) := by decide +kernel
theorem dX4_votesByTurns_129 : decode cX4_votesByTurns 129 = .ok (.aload_n 0, 1) := by decide +kernel
theorem dX4_votesByTurns_130 : decode cX4_votesByTurns 130 = .ok (.iload_n 1, 1) := by decide +kernel
theorem dX4_votesByTurns_131 : decode cX4_votesByTurns 131 = .ok (.iconst 1, 1) := by decide +kernel
theorem dX4_votesByTurns_132 : decode cX4_votesByTurns 132 = .ok (.isub, 1) := by decide +kernel
theorem dX4_votesByTurns_133 : decode cX4_votesByTurns 133 = .ok (.iload 5, 2) := by decide +kernel
theorem dX4_votesByTurns_135 : decode cX4_votesByTurns 135 = .ok (.iload_n 3, 1) := by decide +kernel
theorem dX4_votesByTurns_136 : decode cX4_votesByTurns 136 = .ok (.iload 4, 2) := by decide +kernel
theorem dX4_votesByTurns_138 : decode cX4_votesByTurns 138 = .ok (.iconst 1, 1) := by decide +kernel
theorem dX4_votesByTurns_139 : decode cX4_votesByTurns 139 = .ok (.isub, 1) := by decide +kernel
theorem dX4_votesByTurns_140 : decode cX4_votesByTurns 140 = .ok (.invokestatic 263, 3) := by decide +kernel
theorem dX4_votesByTurns_143 : decode cX4_votesByTurns 143 = .ok (.istore 7, 2) := by decide +kernel
theorem dX4_votesByTurns_145 : decode cX4_votesByTurns 145 = .ok (.iload_n 2, 1) := by decide +kernel
theorem dX4_votesByTurns_146 : decode cX4_votesByTurns 146 = .ok (.iload 6, 2) := by decide +kernel
theorem dX4_votesByTurns_148 : decode cX4_votesByTurns 148 = .ok (.iload 7, 2) := by decide +kernel
theorem dX4_votesByTurns_150 : decode cX4_votesByTurns 150 = .ok (.invokestatic 354, 3) := by decide +kernel
theorem dX4_votesByTurns_153 : decode cX4_votesByTurns 153 = .ok (.istore 6, 2) := by decide +kernel
theorem dX4_votesByTurns_155 : decode cX4_votesByTurns 155 = .ok (.iload 6, 2) := by decide +kernel
theorem dX4_votesByTurns_157 : decode cX4_votesByTurns 157 = .ok (.ireturn, 1) := by decide +kernel
theorem dX4_betterFor_0 : decode cX4_betterFor 0 = .ok (.iload_n 0, 1) := by decide +kernel
theorem dX4_betterFor_1 : decode cX4_betterFor 1 = .ok (.ifCond .ne 11, 3) := by decide +kernel
theorem dX4_betterFor_4 : decode cX4_betterFor 4 = .ok (.iload_n 1, 1) := by decide +kernel
theorem dX4_betterFor_5 : decode cX4_betterFor 5 = .ok (.iload_n 2, 1) := by decide +kernel
theorem dX4_betterFor_6 : decode cX4_betterFor 6 = .ok (.invokestatic 358, 3) := by decide +kernel
theorem dX4_betterFor_9 : decode cX4_betterFor 9 = .ok (.goto 8, 3) := by decide +kernel
theorem dX4_betterFor_12 : decode cX4_betterFor 12 = .ok (.iload_n 1, 1) := by decide +kernel
theorem dX4_betterFor_13 : decode cX4_betterFor 13 = .ok (.iload_n 2, 1) := by decide +kernel
theorem dX4_betterFor_14 : decode cX4_betterFor 14 = .ok (.invokestatic 150, 3) := by decide +kernel
theorem dX4_betterFor_17 : decode cX4_betterFor 17 = .ok (.ireturn, 1) := by decide +kernel
theorem dX4_shareCrowns_0 : decode cX4_shareCrowns 0 = .ok (.aload_n 3, 1) := by decide +kernel
theorem dX4_shareCrowns_1 : decode cX4_shareCrowns 1 = .ok (.aload_n 0, 1) := by decide +kernel
theorem dX4_shareCrowns_2 : decode cX4_shareCrowns 2 = .ok (.getfield 21, 3) := by decide +kernel
theorem dX4_shareCrowns_5 : decode cX4_shareCrowns 5 = .ok (.getfield 124, 3) := by decide +kernel
theorem dX4_shareCrowns_8 : decode cX4_shareCrowns 8 = .ok (.iconst 0, 1) := by decide +kernel
theorem dX4_shareCrowns_9 : decode cX4_shareCrowns 9 = .ok (.invokevirtual 71, 3) := by decide +kernel
theorem dX4_shareCrowns_12 : decode cX4_shareCrowns 12 = .ok (.iload_n 1, 1) := by decide +kernel
theorem dX4_shareCrowns_13 : decode cX4_shareCrowns 13 = .ok (.istore 4, 2) := by decide +kernel
theorem dX4_shareCrowns_15 : decode cX4_shareCrowns 15 = .ok (.iconst 0, 1) := by decide +kernel
theorem dX4_shareCrowns_16 : decode cX4_shareCrowns 16 = .ok (.istore 5, 2) := by decide +kernel
theorem dX4_shareCrowns_18 : decode cX4_shareCrowns 18 = .ok (.iload 5, 2) := by decide +kernel
theorem dX4_shareCrowns_20 : decode cX4_shareCrowns 20 = .ok (.aload_n 0, 1) := by decide +kernel
theorem dX4_shareCrowns_21 : decode cX4_shareCrowns 21 = .ok (.getfield 21, 3) := by decide +kernel
theorem dX4_shareCrowns_24 : decode cX4_shareCrowns 24 = .ok (.getfield 124, 3) := by decide +kernel
theorem dX4_shareCrowns_27 : decode cX4_shareCrowns 27 = .ok (.if_icmp .ge 57, 3) := by decide +kernel
theorem dX4_shareCrowns_30 : decode cX4_shareCrowns 30 = .ok (.iload_n 2, 1) := by decide +kernel
theorem dX4_shareCrowns_31 : decode cX4_shareCrowns 31 = .ok (.ifCond .le 53, 3) := by decide +kernel
theorem dX4_shareCrowns_34 : decode cX4_shareCrowns 34 = .ok (.aload_n 0, 1) := by decide +kernel
theorem dX4_shareCrowns_35 : decode cX4_shareCrowns 35 = .ok (.getfield 21, 3) := by decide +kernel
theorem dX4_shareCrowns_38 : decode cX4_shareCrowns 38 = .ok (.iload 5, 2) := by decide +kernel
theorem dX4_shareCrowns_40 : decode cX4_shareCrowns 40 = .ok (.invokevirtual 199, 3) := by decide +kernel
theorem dX4_shareCrowns_43 : decode cX4_shareCrowns 43 = .ok (.ifCond .eq 35, 3) := by decide +kernel
theorem dX4_shareCrowns_46 : decode cX4_shareCrowns 46 = .ok (.aload_n 3, 1) := by decide +kernel
theorem dX4_shareCrowns_47 : decode cX4_shareCrowns 47 = .ok (.getfield 79, 3) := by decide +kernel
theorem dX4_shareCrowns_50 : decode cX4_shareCrowns 50 = .ok (.iload 5, 2) := by decide +kernel
theorem dX4_shareCrowns_52 : decode cX4_shareCrowns 52 = .ok (.aload_n 0, 1) := by decide +kernel
theorem dX4_shareCrowns_53 : decode cX4_shareCrowns 53 = .ok (.getfield 21, 3) := by decide +kernel
theorem dX4_shareCrowns_56 : decode cX4_shareCrowns 56 = .ok (.iload 5, 2) := by decide +kernel
theorem dX4_shareCrowns_58 : decode cX4_shareCrowns 58 = .ok (.invokevirtual 348, 3) := by decide +kernel
theorem dX4_shareCrowns_61 : decode cX4_shareCrowns 61 = .ok (.iload_n 1, 1) := by decide +kernel
theorem dX4_shareCrowns_62 : decode cX4_shareCrowns 62 = .ok (.imul, 1) := by decide +kernel
theorem dX4_shareCrowns_63 : decode cX4_shareCrowns 63 = .ok (.iload_n 2, 1) := by decide +kernel
theorem dX4_shareCrowns_64 : decode cX4_shareCrowns 64 = .ok (.idiv, 1) := by decide +kernel
theorem dX4_shareCrowns_65 : decode cX4_shareCrowns 65 = .ok (.iastore, 1) := by decide +kernel
theorem dX4_shareCrowns_66 : decode cX4_shareCrowns 66 = .ok (.iload 4, 2) := by decide +kernel
theorem dX4_shareCrowns_68 : decode cX4_shareCrowns 68 = .ok (.aload_n 3, 1) := by decide +kernel
theorem dX4_shareCrowns_69 : decode cX4_shareCrowns 69 = .ok (.getfield 79, 3) := by decide +kernel
theorem dX4_shareCrowns_72 : decode cX4_shareCrowns 72 = .ok (.iload 5, 2) := by decide +kernel
theorem dX4_shareCrowns_74 : decode cX4_shareCrowns 74 = .ok (.iaload, 1) := by decide +kernel
theorem dX4_shareCrowns_75 : decode cX4_shareCrowns 75 = .ok (.isub, 1) := by decide +kernel
theorem dX4_shareCrowns_76 : decode cX4_shareCrowns 76 = .ok (.istore 4, 2) := by decide +kernel
theorem dX4_shareCrowns_78 : decode cX4_shareCrowns 78 = .ok (.iinc 5 1, 3) := by decide +kernel
theorem dX4_shareCrowns_81 : decode cX4_shareCrowns 81 = .ok (.goto (-63), 3) := by decide +kernel
theorem dX4_shareCrowns_84 : decode cX4_shareCrowns 84 = .ok (.iconst 0, 1) := by decide +kernel
theorem dX4_shareCrowns_85 : decode cX4_shareCrowns 85 = .ok (.istore 5, 2) := by decide +kernel
theorem dX4_shareCrowns_87 : decode cX4_shareCrowns 87 = .ok (.iload 5, 2) := by decide +kernel
theorem dX4_shareCrowns_89 : decode cX4_shareCrowns 89 = .ok (.aload_n 0, 1) := by decide +kernel
theorem dX4_shareCrowns_90 : decode cX4_shareCrowns 90 = .ok (.getfield 21, 3) := by decide +kernel
theorem dX4_shareCrowns_93 : decode cX4_shareCrowns 93 = .ok (.getfield 124, 3) := by decide +kernel
theorem dX4_shareCrowns_96 : decode cX4_shareCrowns 96 = .ok (.if_icmp .ge 40, 3) := by decide +kernel
theorem dX4_shareCrowns_99 : decode cX4_shareCrowns 99 = .ok (.iload 4, 2) := by decide +kernel
theorem dX4_shareCrowns_101 : decode cX4_shareCrowns 101 = .ok (.ifCond .le 35, 3) := by decide +kernel
theorem dX4_shareCrowns_104 : decode cX4_shareCrowns 104 = .ok (.aload_n 0, 1) := by decide +kernel
theorem dX4_shareCrowns_105 : decode cX4_shareCrowns 105 = .ok (.getfield 21, 3) := by decide +kernel
theorem dX4_shareCrowns_108 : decode cX4_shareCrowns 108 = .ok (.iload 5, 2) := by decide +kernel
theorem dX4_shareCrowns_110 : decode cX4_shareCrowns 110 = .ok (.invokevirtual 199, 3) := by decide +kernel
theorem dX4_shareCrowns_113 : decode cX4_shareCrowns 113 = .ok (.ifCond .eq 17, 3) := by decide +kernel
theorem dX4_shareCrowns_116 : decode cX4_shareCrowns 116 = .ok (.aload_n 3, 1) := by decide +kernel
theorem dX4_shareCrowns_117 : decode cX4_shareCrowns 117 = .ok (.getfield 79, 3) := by decide +kernel
theorem dX4_shareCrowns_120 : decode cX4_shareCrowns 120 = .ok (.iload 5, 2) := by decide +kernel
theorem dX4_shareCrowns_122 : decode cX4_shareCrowns 122 = .ok (.dup2, 1) := by decide +kernel
theorem dX4_shareCrowns_123 : decode cX4_shareCrowns 123 = .ok (.iaload, 1) := by decide +kernel
theorem dX4_shareCrowns_124 : decode cX4_shareCrowns 124 = .ok (.iconst 1, 1) := by decide +kernel
theorem dX4_shareCrowns_125 : decode cX4_shareCrowns 125 = .ok (.iadd, 1) := by decide +kernel
theorem dX4_shareCrowns_126 : decode cX4_shareCrowns 126 = .ok (.iastore, 1) := by decide +kernel
theorem dX4_shareCrowns_127 : decode cX4_shareCrowns 127 = .ok (.iinc 4 (-1), 3) := by decide +kernel
theorem dX4_shareCrowns_130 : decode cX4_shareCrowns 130 = .ok (.iinc 5 1, 3) := by decide +kernel
theorem dX4_shareCrowns_133 : decode cX4_shareCrowns 133 = .ok (.goto (-46), 3) := by decide +kernel
theorem dX4_shareCrowns_136 : decode cX4_shareCrowns 136 = .ok (.return_, 1) := by decide +kernel
theorem dX4_isWronged_0 : decode cX4_isWronged 0 = .ok (.iconst 0, 1) := by decide +kernel
theorem dX4_isWronged_1 : decode cX4_isWronged 1 = .ok (.istore_n 3, 1) := by decide +kernel
theorem dX4_isWronged_2 : decode cX4_isWronged 2 = .ok (.iload_n 3, 1) := by decide +kernel
theorem dX4_isWronged_3 : decode cX4_isWronged 3 = .ok (.aload_n 0, 1) := by decide +kernel
theorem dX4_isWronged_4 : decode cX4_isWronged 4 = .ok (.getfield 21, 3) := by decide +kernel
theorem dX4_isWronged_7 : decode cX4_isWronged 7 = .ok (.getfield 124, 3) := by decide +kernel
theorem dX4_isWronged_10 : decode cX4_isWronged 10 = .ok (.if_icmp .ge 56, 3) := by decide +kernel
theorem dX4_isWronged_13 : decode cX4_isWronged 13 = .ok (.aload_n 0, 1) := by decide +kernel
theorem dX4_isWronged_14 : decode cX4_isWronged 14 = .ok (.getfield 21, 3) := by decide +kernel
theorem dX4_isWronged_17 : decode cX4_isWronged 17 = .ok (.iload_n 3, 1) := by decide +kernel
theorem dX4_isWronged_18 : decode cX4_isWronged 18 = .ok (.invokevirtual 199, 3) := by decide +kernel
theorem dX4_isWronged_21 : decode cX4_isWronged 21 = .ok (.ifCond .eq 39, 3) := by decide +kernel
theorem dX4_isWronged_24 : decode cX4_isWronged 24 = .ok (.aload_n 2, 1) := by decide +kernel
theorem dX4_isWronged_25 : decode cX4_isWronged 25 = .ok (.getfield 79, 3) := by decide +kernel
theorem dX4_isWronged_28 : decode cX4_isWronged 28 = .ok (.iload_n 1, 1) := by decide +kernel
theorem dX4_isWronged_29 : decode cX4_isWronged 29 = .ok (.iaload, 1) := by decide +kernel
theorem dX4_isWronged_30 : decode cX4_isWronged 30 = .ok (.aload_n 2, 1) := by decide +kernel
theorem dX4_isWronged_31 : decode cX4_isWronged 31 = .ok (.getfield 79, 3) := by decide +kernel
theorem dX4_isWronged_34 : decode cX4_isWronged 34 = .ok (.iload_n 3, 1) := by decide +kernel
theorem dX4_isWronged_35 : decode cX4_isWronged 35 = .ok (.iaload, 1) := by decide +kernel
theorem dX4_isWronged_36 : decode cX4_isWronged 36 = .ok (.if_icmp .ge 24, 3) := by decide +kernel
theorem dX4_isWronged_39 : decode cX4_isWronged 39 = .ok (.aload_n 0, 1) := by decide +kernel
theorem dX4_isWronged_40 : decode cX4_isWronged 40 = .ok (.getfield 21, 3) := by decide +kernel
theorem dX4_isWronged_43 : decode cX4_isWronged 43 = .ok (.iload_n 3, 1) := by decide +kernel
theorem dX4_isWronged_44 : decode cX4_isWronged 44 = .ok (.invokevirtual 348, 3) := by decide +kernel
theorem dX4_isWronged_47 : decode cX4_isWronged 47 = .ok (.aload_n 0, 1) := by decide +kernel
theorem dX4_isWronged_48 : decode cX4_isWronged 48 = .ok (.getfield 21, 3) := by decide +kernel
theorem dX4_isWronged_51 : decode cX4_isWronged 51 = .ok (.iload_n 1, 1) := by decide +kernel
theorem dX4_isWronged_52 : decode cX4_isWronged 52 = .ok (.invokevirtual 348, 3) := by decide +kernel
theorem dX4_isWronged_55 : decode cX4_isWronged 55 = .ok (.if_icmp .gt 5, 3) := by decide +kernel
theorem dX4_isWronged_58 : decode cX4_isWronged 58 = .ok (.iconst 1, 1) := by decide +kernel
theorem dX4_isWronged_59 : decode cX4_isWronged 59 = .ok (.ireturn, 1) := by decide +kernel
theorem dX4_isWronged_60 : decode cX4_isWronged 60 = .ok (.iinc 3 1, 3) := by decide +kernel
theorem dX4_isWronged_63 : decode cX4_isWronged 63 = .ok (.goto (-61), 3) := by decide +kernel
theorem dX4_isWronged_66 : decode cX4_isWronged 66 = .ok (.iconst 0, 1) := by decide +kernel
theorem dX4_isWronged_67 : decode cX4_isWronged 67 = .ok (.ireturn, 1) := by decide +kernel
theorem dX4_refusePapers_0 : decode cX4_refusePapers 0 = .ok (.aload_n 0, 1) := by decide +kernel
theorem dX4_refusePapers_1 : decode cX4_refusePapers 1 = .ok (.getfield 21, 3) := by decide +kernel
theorem dX4_refusePapers_4 : decode cX4_refusePapers 4 = .ok (.iload_n 1, 1) := by decide +kernel
theorem dX4_refusePapers_5 : decode cX4_refusePapers 5 = .ok (.invokevirtual 127, 3) := by decide +kernel
theorem dX4_refusePapers_8 : decode cX4_refusePapers 8 = .ok (.ifCond .ne 5, 3) := by decide +kernel
theorem dX4_refusePapers_11 : decode cX4_refusePapers 11 = .ok (.iconst (-1), 1) := by decide +kernel
theorem dX4_refusePapers_12 : decode cX4_refusePapers 12 = .ok (.ireturn, 1) := by decide +kernel
theorem dX4_refusePapers_13 : decode cX4_refusePapers 13 = .ok (.aload_n 0, 1) := by decide +kernel
theorem dX4_refusePapers_14 : decode cX4_refusePapers 14 = .ok (.aload_n 0, 1) := by decide +kernel
theorem dX4_refusePapers_15 : decode cX4_refusePapers 15 = .ok (.getfield 11, 3) := by decide +kernel
theorem dX4_refusePapers_18 : decode cX4_refusePapers 18 = .ok (.iload_n 2, 1) := by decide +kernel
theorem dX4_refusePapers_19 : decode cX4_refusePapers 19 = .ok (.invokevirtual 82, 3) := by decide +kernel
theorem dX4_refusePapers_22 : decode cX4_refusePapers 22 = .ok (.istore_n 3, 1) := by decide +kernel
theorem dX4_refusePapers_23 : decode cX4_refusePapers 23 = .ok (.iload_n 3, 1) := by decide +kernel
theorem dX4_refusePapers_24 : decode cX4_refusePapers 24 = .ok (.ifCond .eq 5, 3) := by decide +kernel
theorem dX4_refusePapers_27 : decode cX4_refusePapers 27 = .ok (.iload_n 3, 1) := by decide +kernel
theorem dX4_refusePapers_28 : decode cX4_refusePapers 28 = .ok (.ireturn, 1) := by decide +kernel
theorem dX4_refusePapers_29 : decode cX4_refusePapers 29 = .ok (.aload_n 0, 1) := by decide +kernel
theorem dX4_refusePapers_30 : decode cX4_refusePapers 30 = .ok (.getfield 11, 3) := by decide +kernel
theorem dX4_refusePapers_33 : decode cX4_refusePapers 33 = .ok (.iload_n 2, 1) := by decide +kernel
theorem dX4_refusePapers_34 : decode cX4_refusePapers 34 = .ok (.aaload, 1) := by decide +kernel
theorem dX4_refusePapers_35 : decode cX4_refusePapers 35 = .ok (.astore 4, 2) := by decide +kernel
theorem dX4_refusePapers_37 : decode cX4_refusePapers 37 = .ok (.aload 4, 2) := by decide +kernel
theorem dX4_refusePapers_39 : decode cX4_refusePapers 39 = .ok (.getfield 86, 3) := by decide +kernel
theorem dX4_refusePapers_42 : decode cX4_refusePapers 42 = .ok (.iconst 3, 1) := by decide +kernel
theorem dX4_refusePapers_43 : decode cX4_refusePapers 43 = .ok (.irem, 1) := by decide +kernel
theorem dX4_refusePapers_44 : decode cX4_refusePapers 44 = .ok (.ifCond .eq 9, 3) := by decide +kernel
theorem dX4_refusePapers_47 : decode cX4_refusePapers 47 = .ok (.aload_n 0, 1) := by decide +kernel
theorem dX4_refusePapers_48 : decode cX4_refusePapers 48 = .ok (.iconst 5, 1) := by decide +kernel
theorem dX4_refusePapers_49 : decode cX4_refusePapers 49 = .ok (.invokevirtual 67, 3) := by decide +kernel
theorem dX4_refusePapers_52 : decode cX4_refusePapers 52 = .ok (.ireturn, 1) := by decide +kernel
theorem dX4_refusePapers_53 : decode cX4_refusePapers 53 = .ok (.iconst 0, 1) := by decide +kernel
theorem dX4_refusePapers_54 : decode cX4_refusePapers 54 = .ok (.istore 5, 2) := by decide +kernel
theorem dX4_refusePapers_56 : decode cX4_refusePapers 56 = .ok (.iload 5, 2) := by decide +kernel
theorem dX4_refusePapers_58 : decode cX4_refusePapers 58 = .ok (.iconst 2, 1) := by decide +kernel
theorem dX4_refusePapers_59 : decode cX4_refusePapers 59 = .ok (.iadd, 1) := by decide +kernel
theorem dX4_refusePapers_60 : decode cX4_refusePapers 60 = .ok (.aload 4, 2) := by decide +kernel
theorem dX4_refusePapers_62 : decode cX4_refusePapers 62 = .ok (.getfield 86, 3) := by decide +kernel
theorem dX4_refusePapers_65 : decode cX4_refusePapers 65 = .ok (.if_icmp .ge 66, 3) := by decide +kernel
theorem dX4_refusePapers_68 : decode cX4_refusePapers 68 = .ok (.aload 4, 2) := by decide +kernel
theorem dX4_refusePapers_70 : decode cX4_refusePapers 70 = .ok (.getfield 79, 3) := by decide +kernel
theorem dX4_refusePapers_73 : decode cX4_refusePapers 73 = .ok (.iload 5, 2) := by decide +kernel
theorem dX4_refusePapers_75 : decode cX4_refusePapers 75 = .ok (.iconst 2, 1) := by decide +kernel
theorem dX4_refusePapers_76 : decode cX4_refusePapers 76 = .ok (.iadd, 1) := by decide +kernel
theorem dX4_refusePapers_77 : decode cX4_refusePapers 77 = .ok (.iaload, 1) := by decide +kernel
theorem dX4_refusePapers_78 : decode cX4_refusePapers 78 = .ok (.istore 6, 2) := by decide +kernel
theorem dX4_refusePapers_80 : decode cX4_refusePapers 80 = .ok (.aload_n 0, 1) := by decide +kernel
theorem dX4_refusePapers_81 : decode cX4_refusePapers 81 = .ok (.getfield 21, 3) := by decide +kernel
theorem dX4_refusePapers_84 : decode cX4_refusePapers 84 = .ok (.aload 4, 2) := by decide +kernel
theorem dX4_refusePapers_86 : decode cX4_refusePapers 86 = .ok (.getfield 79, 3) := by decide +kernel
theorem dX4_refusePapers_89 : decode cX4_refusePapers 89 = .ok (.iload 5, 2) := by decide +kernel
theorem dX4_refusePapers_91 : decode cX4_refusePapers 91 = .ok (.iaload, 1) := by decide +kernel
theorem dX4_refusePapers_92 : decode cX4_refusePapers 92 = .ok (.aload 4, 2) := by decide +kernel
theorem dX4_refusePapers_94 : decode cX4_refusePapers 94 = .ok (.getfield 79, 3) := by decide +kernel
theorem dX4_refusePapers_97 : decode cX4_refusePapers 97 = .ok (.iload 5, 2) := by decide +kernel
theorem dX4_refusePapers_99 : decode cX4_refusePapers 99 = .ok (.iconst 1, 1) := by decide +kernel
theorem dX4_refusePapers_100 : decode cX4_refusePapers 100 = .ok (.iadd, 1) := by decide +kernel
theorem dX4_refusePapers_101 : decode cX4_refusePapers 101 = .ok (.iaload, 1) := by decide +kernel
theorem dX4_refusePapers_102 : decode cX4_refusePapers 102 = .ok (.invokevirtual 257, 3) := by decide +kernel
theorem dX4_refusePapers_105 : decode cX4_refusePapers 105 = .ok (.ifCond .eq 14, 3) := by decide +kernel
theorem dX4_refusePapers_108 : decode cX4_refusePapers 108 = .ok (.iload 6, 2) := by decide +kernel
theorem dX4_refusePapers_110 : decode cX4_refusePapers 110 = .ok (.ifCond .eq 15, 3) := by decide +kernel
theorem dX4_refusePapers_113 : decode cX4_refusePapers 113 = .ok (.iload 6, 2) := by decide +kernel
theorem dX4_refusePapers_115 : decode cX4_refusePapers 115 = .ok (.iconst 1, 1) := by decide +kernel
theorem dX4_refusePapers_116 : decode cX4_refusePapers 116 = .ok (.if_icmp .eq 9, 3) := by decide +kernel
theorem dX4_refusePapers_119 : decode cX4_refusePapers 119 = .ok (.aload_n 0, 1) := by decide +kernel
theorem dX4_refusePapers_120 : decode cX4_refusePapers 120 = .ok (.iconst 3, 1) := by decide +kernel
theorem dX4_refusePapers_121 : decode cX4_refusePapers 121 = .ok (.invokevirtual 67, 3) := by decide +kernel
theorem dX4_refusePapers_124 : decode cX4_refusePapers 124 = .ok (.ireturn, 1) := by decide +kernel
theorem dX4_refusePapers_125 : decode cX4_refusePapers 125 = .ok (.iinc 5 3, 3) := by decide +kernel
theorem dX4_refusePapers_128 : decode cX4_refusePapers 128 = .ok (.goto (-72), 3) := by decide +kernel
theorem dX4_refusePapers_131 : decode cX4_refusePapers 131 = .ok (.iconst 0, 1) := by decide +kernel
theorem dX4_refusePapers_132 : decode cX4_refusePapers 132 = .ok (.ireturn, 1) := by decide +kernel
theorem dX4_agrees_0 : decode cX4_agrees 0 = .ok (.iconst 0, 1) := by decide +kernel
theorem dX4_agrees_1 : decode cX4_agrees 1 = .ok (.istore 5, 2) := by decide +kernel
theorem dX4_agrees_3 : decode cX4_agrees 3 = .ok (.iload 5, 2) := by decide +kernel
theorem dX4_agrees_5 : decode cX4_agrees 5 = .ok (.iconst 2, 1) := by decide +kernel
theorem dX4_agrees_6 : decode cX4_agrees 6 = .ok (.iadd, 1) := by decide +kernel
theorem dX4_agrees_7 : decode cX4_agrees 7 = .ok (.aload 4, 2) := by decide +kernel
theorem dX4_agrees_9 : decode cX4_agrees 9 = .ok (.getfield 86, 3) := by decide +kernel
theorem dX4_agrees_12 : decode cX4_agrees 12 = .ok (.if_icmp .ge 65, 3) := by decide +kernel
theorem dX4_agrees_15 : decode cX4_agrees 15 = .ok (.aload 4, 2) := by decide +kernel
theorem dX4_agrees_17 : decode cX4_agrees 17 = .ok (.getfield 79, 3) := by decide +kernel
theorem dX4_agrees_20 : decode cX4_agrees 20 = .ok (.iload 5, 2) := by decide +kernel
theorem dX4_agrees_22 : decode cX4_agrees 22 = .ok (.iconst 2, 1) := by decide +kernel
theorem dX4_agrees_23 : decode cX4_agrees 23 = .ok (.iadd, 1) := by decide +kernel
theorem dX4_agrees_24 : decode cX4_agrees 24 = .ok (.iaload, 1) := by decide +kernel
theorem dX4_agrees_25 : decode cX4_agrees 25 = .ok (.iconst 1, 1) := by decide +kernel
theorem dX4_agrees_26 : decode cX4_agrees 26 = .ok (.if_icmp .ne 7, 3) := by decide +kernel
theorem dX4_agrees_29 : decode cX4_agrees 29 = .ok (.iconst 1, 1) := by decide +kernel
theorem dX4_agrees_30 : decode cX4_agrees 30 = .ok (.goto 4, 3) := by decide +kernel
theorem dX4_agrees_33 : decode cX4_agrees 33 = .ok (.iconst 0, 1) := by decide +kernel
theorem dX4_agrees_34 : decode cX4_agrees 34 = .ok (.istore 6, 2) := by decide +kernel
theorem dX4_agrees_36 : decode cX4_agrees 36 = .ok (.aload_n 0, 1) := by decide +kernel
theorem dX4_agrees_37 : decode cX4_agrees 37 = .ok (.getfield 21, 3) := by decide +kernel
theorem dX4_agrees_40 : decode cX4_agrees 40 = .ok (.iload_n 1, 1) := by decide +kernel
theorem dX4_agrees_41 : decode cX4_agrees 41 = .ok (.iload_n 2, 1) := by decide +kernel
theorem dX4_agrees_42 : decode cX4_agrees 42 = .ok (.iload_n 3, 1) := by decide +kernel
theorem dX4_agrees_43 : decode cX4_agrees 43 = .ok (.aload 4, 2) := by decide +kernel
theorem dX4_agrees_45 : decode cX4_agrees 45 = .ok (.getfield 79, 3) := by decide +kernel
theorem dX4_agrees_48 : decode cX4_agrees 48 = .ok (.iload 5, 2) := by decide +kernel
theorem dX4_agrees_50 : decode cX4_agrees 50 = .ok (.iaload, 1) := by decide +kernel
theorem dX4_agrees_51 : decode cX4_agrees 51 = .ok (.aload 4, 2) := by decide +kernel
theorem dX4_agrees_53 : decode cX4_agrees 53 = .ok (.getfield 79, 3) := by decide +kernel
theorem dX4_agrees_56 : decode cX4_agrees 56 = .ok (.iload 5, 2) := by decide +kernel
theorem dX4_agrees_58 : decode cX4_agrees 58 = .ok (.iconst 1, 1) := by decide +kernel
theorem dX4_agrees_59 : decode cX4_agrees 59 = .ok (.iadd, 1) := by decide +kernel
theorem dX4_agrees_60 : decode cX4_agrees 60 = .ok (.iaload, 1) := by decide +kernel
theorem dX4_agrees_61 : decode cX4_agrees 61 = .ok (.invokevirtual 361, 3) := by decide +kernel
theorem dX4_agrees_64 : decode cX4_agrees 64 = .ok (.iload 6, 2) := by decide +kernel
theorem dX4_agrees_66 : decode cX4_agrees 66 = .ok (.if_icmp .eq 5, 3) := by decide +kernel
theorem dX4_agrees_69 : decode cX4_agrees 69 = .ok (.iconst 0, 1) := by decide +kernel
theorem dX4_agrees_70 : decode cX4_agrees 70 = .ok (.ireturn, 1) := by decide +kernel
theorem dX4_agrees_71 : decode cX4_agrees 71 = .ok (.iinc 5 3, 3) := by decide +kernel
theorem dX4_agrees_74 : decode cX4_agrees 74 = .ok (.goto (-71), 3) := by decide +kernel
theorem dX4_agrees_77 : decode cX4_agrees 77 = .ok (.iconst 1, 1) := by decide +kernel
theorem dX4_agrees_78 : decode cX4_agrees 78 = .ok (.ireturn, 1) := by decide +kernel
theorem dX4_waysToBeHere_0 : decode cX4_waysToBeHere 0 = .ok (.iload_n 0, 1) := by decide +kernel
theorem dX4_waysToBeHere_1 : decode cX4_waysToBeHere 1 = .ok (.invokestatic 240, 3) := by decide +kernel
theorem dX4_waysToBeHere_4 : decode cX4_waysToBeHere 4 = .ok (.istore_n 3, 1) := by decide +kernel
theorem dX4_waysToBeHere_5 : decode cX4_waysToBeHere 5 = .ok (.bipush 12, 2) := by decide +kernel
theorem dX4_waysToBeHere_7 : decode cX4_waysToBeHere 7 = .ok (.iload_n 2, 1) := by decide +kernel
theorem dX4_waysToBeHere_8 : decode cX4_waysToBeHere 8 = .ok (.isub, 1) := by decide +kernel
theorem dX4_waysToBeHere_9 : decode cX4_waysToBeHere 9 = .ok (.iload_n 3, 1) := by decide +kernel
theorem dX4_waysToBeHere_10 : decode cX4_waysToBeHere 10 = .ok (.invokestatic 295, 3) := by decide +kernel
theorem dX4_waysToBeHere_13 : decode cX4_waysToBeHere 13 = .ok (.iload_n 2, 1) := by decide +kernel
theorem dX4_waysToBeHere_14 : decode cX4_waysToBeHere 14 = .ok (.iload_n 1, 1) := by decide +kernel
theorem dX4_waysToBeHere_15 : decode cX4_waysToBeHere 15 = .ok (.invokestatic 240, 3) := by decide +kernel
theorem dX4_waysToBeHere_18 : decode cX4_waysToBeHere 18 = .ok (.iload_n 3, 1) := by decide +kernel
theorem dX4_waysToBeHere_19 : decode cX4_waysToBeHere 19 = .ok (.isub, 1) := by decide +kernel
theorem dX4_waysToBeHere_20 : decode cX4_waysToBeHere 20 = .ok (.invokestatic 295, 3) := by decide +kernel
theorem dX4_waysToBeHere_23 : decode cX4_waysToBeHere 23 = .ok (.lmul, 1) := by decide +kernel
theorem dX4_waysToBeHere_24 : decode cX4_waysToBeHere 24 = .ok (.lreturn, 1) := by decide +kernel
theorem dX4_power_0 : decode cX4_power 0 = .ok (.lconst 1, 1) := by decide +kernel
theorem dX4_power_1 : decode cX4_power 1 = .ok (.lstore_n 2, 1) := by decide +kernel
theorem dX4_power_2 : decode cX4_power 2 = .ok (.iconst 0, 1) := by decide +kernel
theorem dX4_power_3 : decode cX4_power 3 = .ok (.istore 4, 2) := by decide +kernel
theorem dX4_power_5 : decode cX4_power 5 = .ok (.iload 4, 2) := by decide +kernel
theorem dX4_power_7 : decode cX4_power 7 = .ok (.iload_n 1, 1) := by decide +kernel
theorem dX4_power_8 : decode cX4_power 8 = .ok (.if_icmp .ge 14, 3) := by decide +kernel
theorem dX4_power_11 : decode cX4_power 11 = .ok (.lload_n 2, 1) := by decide +kernel
theorem dX4_power_12 : decode cX4_power 12 = .ok (.iload_n 0, 1) := by decide +kernel
theorem dX4_power_13 : decode cX4_power 13 = .ok (.i2l, 1) := by decide +kernel
theorem dX4_power_14 : decode cX4_power 14 = .ok (.lmul, 1) := by decide +kernel
theorem dX4_power_15 : decode cX4_power 15 = .ok (.lstore_n 2, 1) := by decide +kernel
theorem dX4_power_16 : decode cX4_power 16 = .ok (.iinc 4 1, 3) := by decide +kernel
theorem dX4_power_19 : decode cX4_power 19 = .ok (.goto (-14), 3) := by decide +kernel
theorem dX4_power_22 : decode cX4_power 22 = .ok (.lload_n 2, 1) := by decide +kernel
theorem dX4_power_23 : decode cX4_power 23 = .ok (.lreturn, 1) := by decide +kernel
theorem dX4_tellFraction_0 : decode cX4_tellFraction 0 = .ok (.lload_n 3, 1) := by decide +kernel
theorem dX4_tellFraction_1 : decode cX4_tellFraction 1 = .ok (.lstore 5, 2) := by decide +kernel
theorem dX4_tellFraction_3 : decode cX4_tellFraction 3 = .ok (.lload_n 1, 1) := by decide +kernel
theorem dX4_tellFraction_4 : decode cX4_tellFraction 4 = .ok (.lstore 7, 2) := by decide +kernel
theorem dX4_tellFraction_6 : decode cX4_tellFraction 6 = .ok (.iconst 0, 1) := by decide +kernel
theorem dX4_tellFraction_7 : decode cX4_tellFraction 7 = .ok (.istore 9, 2) := by decide +kernel
theorem dX4_tellFraction_9 : decode cX4_tellFraction 9 = .ok (.iload 9, 2) := by decide +kernel
theorem dX4_tellFraction_11 : decode cX4_tellFraction 11 = .ok (.sipush 1000, 3) := by decide +kernel
theorem dX4_tellFraction_14 : decode cX4_tellFraction 14 = .ok (.if_icmp .ge 31, 3) := by decide +kernel
theorem dX4_tellFraction_17 : decode cX4_tellFraction 17 = .ok (.lload 7, 2) := by decide +kernel
theorem dX4_tellFraction_19 : decode cX4_tellFraction 19 = .ok (.lconst 0, 1) := by decide +kernel
theorem dX4_tellFraction_20 : decode cX4_tellFraction 20 = .ok (.lcmp, 1) := by decide +kernel
theorem dX4_tellFraction_21 : decode cX4_tellFraction 21 = .ok (.ifCond .le 24, 3) := by decide +kernel
theorem dX4_tellFraction_24 : decode cX4_tellFraction 24 = .ok (.lload 5, 2) := by decide +kernel
theorem dX4_tellFraction_26 : decode cX4_tellFraction 26 = .ok (.lload 7, 2) := by decide +kernel
theorem dX4_tellFraction_28 : decode cX4_tellFraction 28 = .ok (.lrem, 1) := by decide +kernel
theorem dX4_tellFraction_29 : decode cX4_tellFraction 29 = .ok (.lstore 10, 2) := by decide +kernel
theorem dX4_tellFraction_31 : decode cX4_tellFraction 31 = .ok (.lload 7, 2) := by decide +kernel
theorem dX4_tellFraction_33 : decode cX4_tellFraction 33 = .ok (.lstore 5, 2) := by decide +kernel
theorem dX4_tellFraction_35 : decode cX4_tellFraction 35 = .ok (.lload 10, 2) := by decide +kernel
theorem dX4_tellFraction_37 : decode cX4_tellFraction 37 = .ok (.lstore 7, 2) := by decide +kernel
theorem dX4_tellFraction_39 : decode cX4_tellFraction 39 = .ok (.iinc 9 1, 3) := by decide +kernel
theorem dX4_tellFraction_42 : decode cX4_tellFraction 42 = .ok (.goto (-33), 3) := by decide +kernel
theorem dX4_tellFraction_45 : decode cX4_tellFraction 45 = .ok (.lload 5, 2) := by decide +kernel
theorem dX4_tellFraction_47 : decode cX4_tellFraction 47 = .ok (.lconst 0, 1) := by decide +kernel
theorem dX4_tellFraction_48 : decode cX4_tellFraction 48 = .ok (.lcmp, 1) := by decide +kernel
theorem dX4_tellFraction_49 : decode cX4_tellFraction 49 = .ok (.ifCond .le 19, 3) := by decide +kernel
theorem dX4_tellFraction_52 : decode cX4_tellFraction 52 = .ok (.aload_n 0, 1) := by decide +kernel
theorem dX4_tellFraction_53 : decode cX4_tellFraction 53 = .ok (.lload_n 1, 1) := by decide +kernel
theorem dX4_tellFraction_54 : decode cX4_tellFraction 54 = .ok (.lload 5, 2) := by decide +kernel
theorem dX4_tellFraction_56 : decode cX4_tellFraction 56 = .ok (.ldiv, 1) := by decide +kernel
theorem dX4_tellFraction_57 : decode cX4_tellFraction 57 = .ok (.putfield 53, 3) := by decide +kernel
theorem dX4_tellFraction_60 : decode cX4_tellFraction 60 = .ok (.aload_n 0, 1) := by decide +kernel
theorem dX4_tellFraction_61 : decode cX4_tellFraction 61 = .ok (.lload_n 3, 1) := by decide +kernel
theorem dX4_tellFraction_62 : decode cX4_tellFraction 62 = .ok (.lload 5, 2) := by decide +kernel
theorem dX4_tellFraction_64 : decode cX4_tellFraction 64 = .ok (.ldiv, 1) := by decide +kernel
theorem dX4_tellFraction_65 : decode cX4_tellFraction 65 = .ok (.putfield 57, 3) := by decide +kernel
theorem dX4_tellFraction_68 : decode cX4_tellFraction 68 = .ok (.return_, 1) := by decide +kernel
theorem dX4_coastsOf_0 : decode cX4_coastsOf 0 = .ok (.bipush 10, 2) := by decide +kernel
theorem dX4_coastsOf_2 : decode cX4_coastsOf 2 = .ok (.iload_n 0, 1) := by decide +kernel
theorem dX4_coastsOf_3 : decode cX4_coastsOf 3 = .ok (.imul, 1) := by decide +kernel
theorem dX4_coastsOf_4 : decode cX4_coastsOf 4 = .ok (.iload_n 1, 1) := by decide +kernel
theorem dX4_coastsOf_5 : decode cX4_coastsOf 5 = .ok (.iadd, 1) := by decide +kernel
theorem dX4_coastsOf_6 : decode cX4_coastsOf 6 = .ok (.ireturn, 1) := by decide +kernel
theorem dX4_westOf_0 : decode cX4_westOf 0 = .ok (.iload_n 0, 1) := by decide +kernel
theorem dX4_westOf_1 : decode cX4_westOf 1 = .ok (.bipush 10, 2) := by decide +kernel
theorem dX4_westOf_3 : decode cX4_westOf 3 = .ok (.idiv, 1) := by decide +kernel
theorem dX4_westOf_4 : decode cX4_westOf 4 = .ok (.ireturn, 1) := by decide +kernel
theorem dX4_eastOf_0 : decode cX4_eastOf 0 = .ok (.iload_n 0, 1) := by decide +kernel
theorem dX4_eastOf_1 : decode cX4_eastOf 1 = .ok (.bipush 10, 2) := by decide +kernel
theorem dX4_eastOf_3 : decode cX4_eastOf 3 = .ok (.irem, 1) := by decide +kernel
theorem dX4_eastOf_4 : decode cX4_eastOf 4 = .ok (.ireturn, 1) := by decide +kernel
theorem dX4_middleOf_0 : decode cX4_middleOf 0 = .ok (.iload_n 0, 1) := by decide +kernel
theorem dX4_middleOf_1 : decode cX4_middleOf 1 = .ok (.iload_n 1, 1) := by decide +kernel
theorem dX4_middleOf_2 : decode cX4_middleOf 2 = .ok (.iadd, 1) := by decide +kernel
theorem dX4_middleOf_3 : decode cX4_middleOf 3 = .ok (.iconst 2, 1) := by decide +kernel
theorem dX4_middleOf_4 : decode cX4_middleOf 4 = .ok (.idiv, 1) := by decide +kernel
theorem dX4_middleOf_5 : decode cX4_middleOf 5 = .ok (.ireturn, 1) := by decide +kernel
