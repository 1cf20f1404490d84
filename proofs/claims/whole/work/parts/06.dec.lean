theorem dX5_ages_12 : decode cX5_ages 12 = .ok (.iaload, 1) := by decide +kernel
theorem dX5_ages_13 : decode cX5_ages 13 = .ok (.invokevirtual 183, 3) := by decide +kernel
theorem dX5_ages_16 : decode cX5_ages 16 = .ok (.istore_n 1, 1) := by decide +kernel
theorem dX5_ages_17 : decode cX5_ages 17 = .ok (.aload_n 0, 1) := by decide +kernel
theorem dX5_ages_18 : decode cX5_ages 18 = .ok (.getfield 25, 3) := by decide +kernel
theorem dX5_ages_21 : decode cX5_ages 21 = .ok (.iconst 1, 1) := by decide +kernel
theorem dX5_ages_22 : decode cX5_ages 22 = .ok (.iload_n 1, 1) := by decide +kernel
theorem dX5_ages_23 : decode cX5_ages 23 = .ok (.bipush 10, 2) := by decide +kernel
theorem dX5_ages_25 : decode cX5_ages 25 = .ok (.idiv, 1) := by decide +kernel
theorem dX5_ages_26 : decode cX5_ages 26 = .ok (.iastore, 1) := by decide +kernel
theorem dX5_ages_27 : decode cX5_ages 27 = .ok (.aload_n 0, 1) := by decide +kernel
theorem dX5_ages_28 : decode cX5_ages 28 = .ok (.getfield 25, 3) := by decide +kernel
theorem dX5_ages_31 : decode cX5_ages 31 = .ok (.iconst 2, 1) := by decide +kernel
theorem dX5_ages_32 : decode cX5_ages 32 = .ok (.iload_n 1, 1) := by decide +kernel
theorem dX5_ages_33 : decode cX5_ages 33 = .ok (.bipush 10, 2) := by decide +kernel
theorem dX5_ages_35 : decode cX5_ages 35 = .ok (.irem, 1) := by decide +kernel
theorem dX5_ages_36 : decode cX5_ages 36 = .ok (.iastore, 1) := by decide +kernel
theorem dX5_ages_37 : decode cX5_ages 37 = .ok (.aload_n 0, 1) := by decide +kernel
theorem dX5_ages_38 : decode cX5_ages 38 = .ok (.getfield 25, 3) := by decide +kernel
theorem dX5_ages_41 : decode cX5_ages 41 = .ok (.bipush 8, 2) := by decide +kernel
theorem dX5_ages_43 : decode cX5_ages 43 = .ok (.dup2, 1) := by decide +kernel
theorem dX5_ages_44 : decode cX5_ages 44 = .ok (.iaload, 1) := by decide +kernel
theorem dX5_ages_45 : decode cX5_ages 45 = .ok (.iconst 1, 1) := by decide +kernel
theorem dX5_ages_46 : decode cX5_ages 46 = .ok (.iadd, 1) := by decide +kernel
theorem dX5_ages_47 : decode cX5_ages 47 = .ok (.iastore, 1) := by decide +kernel
theorem dX5_ages_48 : decode cX5_ages 48 = .ok (.return_, 1) := by decide +kernel
theorem dX5_year_0 : decode cX5_year 0 = .ok (.aload_n 0, 1) := by decide +kernel
theorem dX5_year_1 : decode cX5_year 1 = .ok (.invokevirtual 176, 3) := by decide +kernel
theorem dX5_year_4 : decode cX5_year 4 = .ok (.ifCond .ne 6, 3) := by decide +kernel
theorem dX5_year_7 : decode cX5_year 7 = .ok (.bipush (-4), 2) := by decide +kernel
theorem dX5_year_9 : decode cX5_year 9 = .ok (.ireturn, 1) := by decide +kernel
theorem dX5_year_10 : decode cX5_year 10 = .ok (.aload_n 0, 1) := by decide +kernel
theorem dX5_year_11 : decode cX5_year 11 = .ok (.getfield 25, 3) := by decide +kernel
theorem dX5_year_14 : decode cX5_year 14 = .ok (.bipush 9, 2) := by decide +kernel
theorem dX5_year_16 : decode cX5_year 16 = .ok (.iaload, 1) := by decide +kernel
theorem dX5_year_17 : decode cX5_year 17 = .ok (.bipush 40, 2) := by decide +kernel
theorem dX5_year_19 : decode cX5_year 19 = .ok (.if_icmp .ne 6, 3) := by decide +kernel
theorem dX5_year_22 : decode cX5_year 22 = .ok (.bipush (-2), 2) := by decide +kernel
theorem dX5_year_24 : decode cX5_year 24 = .ok (.ireturn, 1) := by decide +kernel
theorem dX5_year_25 : decode cX5_year 25 = .ok (.aload_n 0, 1) := by decide +kernel
theorem dX5_year_26 : decode cX5_year 26 = .ok (.invokevirtual 186, 3) := by decide +kernel
theorem dX5_year_29 : decode cX5_year 29 = .ok (.aload_n 0, 1) := by decide +kernel
theorem dX5_year_30 : decode cX5_year 30 = .ok (.invokevirtual 189, 3) := by decide +kernel
theorem dX5_year_33 : decode cX5_year 33 = .ok (.aload_n 0, 1) := by decide +kernel
theorem dX5_year_34 : decode cX5_year 34 = .ok (.getfield 25, 3) := by decide +kernel
theorem dX5_year_37 : decode cX5_year 37 = .ok (.iconst 2, 1) := by decide +kernel
theorem dX5_year_38 : decode cX5_year 38 = .ok (.iaload, 1) := by decide +kernel
theorem dX5_year_39 : decode cX5_year 39 = .ok (.aload_n 0, 1) := by decide +kernel
theorem dX5_year_40 : decode cX5_year 40 = .ok (.getfield 25, 3) := by decide +kernel
theorem dX5_year_43 : decode cX5_year 43 = .ok (.iconst 1, 1) := by decide +kernel
theorem dX5_year_44 : decode cX5_year 44 = .ok (.iaload, 1) := by decide +kernel
theorem dX5_year_45 : decode cX5_year 45 = .ok (.isub, 1) := by decide +kernel
theorem dX5_year_46 : decode cX5_year 46 = .ok (.ireturn, 1) := by decide +kernel
theorem dX5_step_0 : decode cX5_step 0 = .ok (.iload_n 1, 1) := by decide +kernel
theorem dX5_step_1 : decode cX5_step 1 = .ok (.iconst 0, 1) := by decide +kernel
theorem dX5_step_2 : decode cX5_step 2 = .ok (.iconst 1, 1) := by decide +kernel
theorem dX5_step_3 : decode cX5_step 3 = .ok (.invokestatic 73, 3) := by decide +kernel
theorem dX5_step_6 : decode cX5_step 6 = .ok (.ifCond .eq 13, 3) := by decide +kernel
theorem dX5_step_9 : decode cX5_step 9 = .ok (.iload_n 2, 1) := by decide +kernel
theorem dX5_step_10 : decode cX5_step 10 = .ok (.iconst 1, 1) := by decide +kernel
theorem dX5_step_11 : decode cX5_step 11 = .ok (.if_icmp .eq 10, 3) := by decide +kernel
theorem dX5_step_14 : decode cX5_step 14 = .ok (.iload_n 2, 1) := by decide +kernel
theorem dX5_step_15 : decode cX5_step 15 = .ok (.iconst (-1), 1) := by decide +kernel
theorem dX5_step_16 : decode cX5_step 16 = .ok (.if_icmp .eq 5, 3) := by decide +kernel
theorem dX5_step_19 : decode cX5_step 19 = .ok (.iconst (-1), 1) := by decide +kernel
theorem dX5_step_20 : decode cX5_step 20 = .ok (.ireturn, 1) := by decide +kernel
theorem dX5_step_21 : decode cX5_step 21 = .ok (.aload_n 0, 1) := by decide +kernel
theorem dX5_step_22 : decode cX5_step 22 = .ok (.getfield 25, 3) := by decide +kernel
theorem dX5_step_25 : decode cX5_step 25 = .ok (.iconst 1, 1) := by decide +kernel
theorem dX5_step_26 : decode cX5_step 26 = .ok (.iaload, 1) := by decide +kernel
theorem dX5_step_27 : decode cX5_step 27 = .ok (.iload_n 1, 1) := by decide +kernel
theorem dX5_step_28 : decode cX5_step 28 = .ok (.ifCond .ne 7, 3) := by decide +kernel
theorem dX5_step_31 : decode cX5_step 31 = .ok (.iload_n 2, 1) := by decide +kernel
theorem dX5_step_32 : decode cX5_step 32 = .ok (.goto 4, 3) := by decide +kernel
theorem dX5_step_35 : decode cX5_step 35 = .ok (.iconst 0, 1) := by decide +kernel
theorem dX5_step_36 : decode cX5_step 36 = .ok (.isub, 1) := by decide +kernel
theorem dX5_step_37 : decode cX5_step 37 = .ok (.istore_n 3, 1) := by decide +kernel
theorem dX5_step_38 : decode cX5_step 38 = .ok (.aload_n 0, 1) := by decide +kernel
theorem dX5_step_39 : decode cX5_step 39 = .ok (.getfield 25, 3) := by decide +kernel
theorem dX5_step_42 : decode cX5_step 42 = .ok (.iconst 2, 1) := by decide +kernel
theorem dX5_step_43 : decode cX5_step 43 = .ok (.iaload, 1) := by decide +kernel
theorem dX5_step_44 : decode cX5_step 44 = .ok (.iload_n 1, 1) := by decide +kernel
theorem dX5_step_45 : decode cX5_step 45 = .ok (.iconst 1, 1) := by decide +kernel
theorem dX5_step_46 : decode cX5_step 46 = .ok (.if_icmp .ne 7, 3) := by decide +kernel
theorem dX5_step_49 : decode cX5_step 49 = .ok (.iload_n 2, 1) := by decide +kernel
theorem dX5_step_50 : decode cX5_step 50 = .ok (.goto 4, 3) := by decide +kernel
theorem dX5_step_53 : decode cX5_step 53 = .ok (.iconst 0, 1) := by decide +kernel
theorem dX5_step_54 : decode cX5_step 54 = .ok (.iadd, 1) := by decide +kernel
theorem dX5_step_55 : decode cX5_step 55 = .ok (.istore 4, 2) := by decide +kernel
theorem dX5_step_57 : decode cX5_step 57 = .ok (.aload_n 0, 1) := by decide +kernel
theorem dX5_step_58 : decode cX5_step 58 = .ok (.invokevirtual 176, 3) := by decide +kernel
theorem dX5_step_61 : decode cX5_step 61 = .ok (.ifCond .eq 13, 3) := by decide +kernel
theorem dX5_step_64 : decode cX5_step 64 = .ok (.aload_n 0, 1) := by decide +kernel
theorem dX5_step_65 : decode cX5_step 65 = .ok (.iload_n 3, 1) := by decide +kernel
theorem dX5_step_66 : decode cX5_step 66 = .ok (.iload 4, 2) := by decide +kernel
theorem dX5_step_68 : decode cX5_step 68 = .ok (.invokevirtual 192, 3) := by decide +kernel
theorem dX5_step_71 : decode cX5_step 71 = .ok (.ifCond .ne 6, 3) := by decide +kernel
theorem dX5_step_74 : decode cX5_step 74 = .ok (.bipush (-4), 2) := by decide +kernel
theorem dX5_step_76 : decode cX5_step 76 = .ok (.ireturn, 1) := by decide +kernel
theorem dX5_step_77 : decode cX5_step 77 = .ok (.aload_n 0, 1) := by decide +kernel
theorem dX5_step_78 : decode cX5_step 78 = .ok (.getfield 25, 3) := by decide +kernel
theorem dX5_step_81 : decode cX5_step 81 = .ok (.bipush 9, 2) := by decide +kernel
theorem dX5_step_83 : decode cX5_step 83 = .ok (.iaload, 1) := by decide +kernel
theorem dX5_step_84 : decode cX5_step 84 = .ok (.bipush 40, 2) := by decide +kernel
theorem dX5_step_86 : decode cX5_step 86 = .ok (.if_icmp .ne 6, 3) := by decide +kernel
theorem dX5_step_89 : decode cX5_step 89 = .ok (.bipush (-2), 2) := by decide +kernel
theorem dX5_step_91 : decode cX5_step 91 = .ok (.ireturn, 1) := by decide +kernel
theorem dX5_step_92 : decode cX5_step 92 = .ok (.aload_n 0, 1) := by decide +kernel
theorem dX5_step_93 : decode cX5_step 93 = .ok (.invokevirtual 186, 3) := by decide +kernel
theorem dX5_step_96 : decode cX5_step 96 = .ok (.aload_n 0, 1) := by decide +kernel
theorem dX5_step_97 : decode cX5_step 97 = .ok (.getfield 25, 3) := by decide +kernel
theorem dX5_step_100 : decode cX5_step 100 = .ok (.iconst 1, 1) := by decide +kernel
theorem dX5_step_101 : decode cX5_step 101 = .ok (.iload_n 3, 1) := by decide +kernel
theorem dX5_step_102 : decode cX5_step 102 = .ok (.iastore, 1) := by decide +kernel
theorem dX5_step_103 : decode cX5_step 103 = .ok (.aload_n 0, 1) := by decide +kernel
theorem dX5_step_104 : decode cX5_step 104 = .ok (.getfield 25, 3) := by decide +kernel
theorem dX5_step_107 : decode cX5_step 107 = .ok (.iconst 2, 1) := by decide +kernel
theorem dX5_step_108 : decode cX5_step 108 = .ok (.iload 4, 2) := by decide +kernel
theorem dX5_step_110 : decode cX5_step 110 = .ok (.iastore, 1) := by decide +kernel
theorem dX5_step_111 : decode cX5_step 111 = .ok (.iload 4, 2) := by decide +kernel
theorem dX5_step_113 : decode cX5_step 113 = .ok (.iload_n 3, 1) := by decide +kernel
theorem dX5_step_114 : decode cX5_step 114 = .ok (.isub, 1) := by decide +kernel
theorem dX5_step_115 : decode cX5_step 115 = .ok (.ireturn, 1) := by decide +kernel
theorem dX5_walk_0 : decode cX5_walk 0 = .ok (.aload_n 0, 1) := by decide +kernel
theorem dX5_walk_1 : decode cX5_walk 1 = .ok (.iload_n 1, 1) := by decide +kernel
theorem dX5_walk_2 : decode cX5_walk 2 = .ok (.invokevirtual 150, 3) := by decide +kernel
theorem dX5_walk_5 : decode cX5_walk 5 = .ok (.ifCond .eq 11, 3) := by decide +kernel
theorem dX5_walk_8 : decode cX5_walk 8 = .ok (.aload_n 0, 1) := by decide +kernel
theorem dX5_walk_9 : decode cX5_walk 9 = .ok (.iload_n 2, 1) := by decide +kernel
theorem dX5_walk_10 : decode cX5_walk 10 = .ok (.invokevirtual 195, 3) := by decide +kernel
theorem dX5_walk_13 : decode cX5_walk 13 = .ok (.ifCond .ne 5, 3) := by decide +kernel
theorem dX5_walk_16 : decode cX5_walk 16 = .ok (.iconst (-1), 1) := by decide +kernel
theorem dX5_walk_17 : decode cX5_walk 17 = .ok (.ireturn, 1) := by decide +kernel
theorem dX5_walk_18 : decode cX5_walk 18 = .ok (.aload_n 0, 1) := by decide +kernel
theorem dX5_walk_19 : decode cX5_walk 19 = .ok (.getfield 25, 3) := by decide +kernel
theorem dX5_walk_22 : decode cX5_walk 22 = .ok (.bipush 10, 2) := by decide +kernel
theorem dX5_walk_24 : decode cX5_walk 24 = .ok (.iconst 5, 1) := by decide +kernel
theorem dX5_walk_25 : decode cX5_walk 25 = .ok (.iload_n 1, 1) := by decide +kernel
theorem dX5_walk_26 : decode cX5_walk 26 = .ok (.imul, 1) := by decide +kernel
theorem dX5_walk_27 : decode cX5_walk 27 = .ok (.iadd, 1) := by decide +kernel
theorem dX5_walk_28 : decode cX5_walk 28 = .ok (.iconst 1, 1) := by decide +kernel
theorem dX5_walk_29 : decode cX5_walk 29 = .ok (.iadd, 1) := by decide +kernel
theorem dX5_walk_30 : decode cX5_walk 30 = .ok (.iaload, 1) := by decide +kernel
theorem dX5_walk_31 : decode cX5_walk 31 = .ok (.iload_n 2, 1) := by decide +kernel
theorem dX5_walk_32 : decode cX5_walk 32 = .ok (.invokestatic 156, 3) := by decide +kernel
theorem dX5_walk_35 : decode cX5_walk 35 = .ok (.iconst 1, 1) := by decide +kernel
theorem dX5_walk_36 : decode cX5_walk 36 = .ok (.if_icmp .eq 6, 3) := by decide +kernel
theorem dX5_walk_39 : decode cX5_walk 39 = .ok (.bipush (-4), 2) := by decide +kernel
theorem dX5_walk_41 : decode cX5_walk 41 = .ok (.ireturn, 1) := by decide +kernel
theorem dX5_walk_42 : decode cX5_walk 42 = .ok (.aload_n 0, 1) := by decide +kernel
theorem dX5_walk_43 : decode cX5_walk 43 = .ok (.getfield 25, 3) := by decide +kernel
theorem dX5_walk_46 : decode cX5_walk 46 = .ok (.bipush 9, 2) := by decide +kernel
theorem dX5_walk_48 : decode cX5_walk 48 = .ok (.iaload, 1) := by decide +kernel
theorem dX5_walk_49 : decode cX5_walk 49 = .ok (.bipush 40, 2) := by decide +kernel
theorem dX5_walk_51 : decode cX5_walk 51 = .ok (.if_icmp .ne 6, 3) := by decide +kernel
theorem dX5_walk_54 : decode cX5_walk 54 = .ok (.bipush (-2), 2) := by decide +kernel
theorem dX5_walk_56 : decode cX5_walk 56 = .ok (.ireturn, 1) := by decide +kernel
theorem dX5_walk_57 : decode cX5_walk 57 = .ok (.aload_n 0, 1) := by decide +kernel
theorem dX5_walk_58 : decode cX5_walk 58 = .ok (.invokevirtual 186, 3) := by decide +kernel
theorem dX5_walk_61 : decode cX5_walk 61 = .ok (.aload_n 0, 1) := by decide +kernel
theorem dX5_walk_62 : decode cX5_walk 62 = .ok (.getfield 25, 3) := by decide +kernel
theorem dX5_walk_65 : decode cX5_walk 65 = .ok (.bipush 10, 2) := by decide +kernel
theorem dX5_walk_67 : decode cX5_walk 67 = .ok (.iconst 5, 1) := by decide +kernel
theorem dX5_walk_68 : decode cX5_walk 68 = .ok (.iload_n 1, 1) := by decide +kernel
theorem dX5_walk_69 : decode cX5_walk 69 = .ok (.imul, 1) := by decide +kernel
theorem dX5_walk_70 : decode cX5_walk 70 = .ok (.iadd, 1) := by decide +kernel
theorem dX5_walk_71 : decode cX5_walk 71 = .ok (.iconst 1, 1) := by decide +kernel
theorem dX5_walk_72 : decode cX5_walk 72 = .ok (.iadd, 1) := by decide +kernel
theorem dX5_walk_73 : decode cX5_walk 73 = .ok (.iload_n 2, 1) := by decide +kernel
theorem dX5_walk_74 : decode cX5_walk 74 = .ok (.iastore, 1) := by decide +kernel
theorem dX5_walk_75 : decode cX5_walk 75 = .ok (.aload_n 0, 1) := by decide +kernel
theorem dX5_walk_76 : decode cX5_walk 76 = .ok (.iload_n 1, 1) := by decide +kernel
theorem dX5_walk_77 : decode cX5_walk 77 = .ok (.iconst 5, 1) := by decide +kernel
theorem dX5_walk_78 : decode cX5_walk 78 = .ok (.invokevirtual 153, 3) := by decide +kernel
theorem dX5_walk_81 : decode cX5_walk 81 = .ok (.ireturn, 1) := by decide +kernel
theorem dX5_undo_0 : decode cX5_undo 0 = .ok (.iload_n 1, 1) := by decide +kernel
theorem dX5_undo_1 : decode cX5_undo 1 = .ok (.iconst 0, 1) := by decide +kernel
theorem dX5_undo_2 : decode cX5_undo 2 = .ok (.aload_n 0, 1) := by decide +kernel
theorem dX5_undo_3 : decode cX5_undo 3 = .ok (.getfield 25, 3) := by decide +kernel
theorem dX5_undo_6 : decode cX5_undo 6 = .ok (.bipush 9, 2) := by decide +kernel
theorem dX5_undo_8 : decode cX5_undo 8 = .ok (.iaload, 1) := by decide +kernel
theorem dX5_undo_9 : decode cX5_undo 9 = .ok (.invokestatic 73, 3) := by decide +kernel
theorem dX5_undo_12 : decode cX5_undo 12 = .ok (.ifCond .ne 5, 3) := by decide +kernel
theorem dX5_undo_15 : decode cX5_undo 15 = .ok (.iconst (-1), 1) := by decide +kernel
theorem dX5_undo_16 : decode cX5_undo 16 = .ok (.ireturn, 1) := by decide +kernel
theorem dX5_undo_17 : decode cX5_undo 17 = .ok (.aload_n 0, 1) := by decide +kernel
theorem dX5_undo_18 : decode cX5_undo 18 = .ok (.getfield 25, 3) := by decide +kernel
theorem dX5_undo_21 : decode cX5_undo 21 = .ok (.bipush 9, 2) := by decide +kernel
theorem dX5_undo_23 : decode cX5_undo 23 = .ok (.iaload, 1) := by decide +kernel
theorem dX5_undo_24 : decode cX5_undo 24 = .ok (.iload_n 1, 1) := by decide +kernel
theorem dX5_undo_25 : decode cX5_undo 25 = .ok (.isub, 1) := by decide +kernel
theorem dX5_undo_26 : decode cX5_undo 26 = .ok (.istore_n 2, 1) := by decide +kernel
theorem dX5_undo_27 : decode cX5_undo 27 = .ok (.iload_n 2, 1) := by decide +kernel
theorem dX5_undo_28 : decode cX5_undo 28 = .ok (.ifCond .le 101, 3) := by decide +kernel
theorem dX5_undo_31 : decode cX5_undo 31 = .ok (.bipush 40, 2) := by decide +kernel
theorem dX5_undo_33 : decode cX5_undo 33 = .ok (.bipush 9, 2) := by decide +kernel
theorem dX5_undo_35 : decode cX5_undo 35 = .ok (.iload_n 1, 1) := by decide +kernel
theorem dX5_undo_36 : decode cX5_undo 36 = .ok (.imul, 1) := by decide +kernel
theorem dX5_undo_37 : decode cX5_undo 37 = .ok (.iadd, 1) := by decide +kernel
theorem dX5_undo_38 : decode cX5_undo 38 = .ok (.istore_n 3, 1) := by decide +kernel
theorem dX5_undo_39 : decode cX5_undo 39 = .ok (.aload_n 0, 1) := by decide +kernel
theorem dX5_undo_40 : decode cX5_undo 40 = .ok (.getfield 25, 3) := by decide +kernel
theorem dX5_undo_43 : decode cX5_undo 43 = .ok (.iconst 1, 1) := by decide +kernel
theorem dX5_undo_44 : decode cX5_undo 44 = .ok (.aload_n 0, 1) := by decide +kernel
theorem dX5_undo_45 : decode cX5_undo 45 = .ok (.getfield 25, 3) := by decide +kernel
theorem dX5_undo_48 : decode cX5_undo 48 = .ok (.iload_n 3, 1) := by decide +kernel
theorem dX5_undo_49 : decode cX5_undo 49 = .ok (.iaload, 1) := by decide +kernel
theorem dX5_undo_50 : decode cX5_undo 50 = .ok (.iastore, 1) := by decide +kernel
theorem dX5_undo_51 : decode cX5_undo 51 = .ok (.aload_n 0, 1) := by decide +kernel
theorem dX5_undo_52 : decode cX5_undo 52 = .ok (.getfield 25, 3) := by decide +kernel
theorem dX5_undo_55 : decode cX5_undo 55 = .ok (.iconst 2, 1) := by decide +kernel
theorem dX5_undo_56 : decode cX5_undo 56 = .ok (.aload_n 0, 1) := by decide +kernel
theorem dX5_undo_57 : decode cX5_undo 57 = .ok (.getfield 25, 3) := by decide +kernel
theorem dX5_undo_60 : decode cX5_undo 60 = .ok (.iload_n 3, 1) := by decide +kernel
theorem dX5_undo_61 : decode cX5_undo 61 = .ok (.iconst 1, 1) := by decide +kernel
theorem dX5_undo_62 : decode cX5_undo 62 = .ok (.iadd, 1) := by decide +kernel
theorem dX5_undo_63 : decode cX5_undo 63 = .ok (.iaload, 1) := by decide +kernel
theorem dX5_undo_64 : decode cX5_undo 64 = .ok (.iastore, 1) := by decide +kernel
theorem dX5_undo_65 : decode cX5_undo 65 = .ok (.aload_n 0, 1) := by decide +kernel
theorem dX5_undo_66 : decode cX5_undo 66 = .ok (.getfield 25, 3) := by decide +kernel
theorem dX5_undo_69 : decode cX5_undo 69 = .ok (.bipush 8, 2) := by decide +kernel
theorem dX5_undo_71 : decode cX5_undo 71 = .ok (.aload_n 0, 1) := by decide +kernel
theorem dX5_undo_72 : decode cX5_undo 72 = .ok (.getfield 25, 3) := by decide +kernel
theorem dX5_undo_75 : decode cX5_undo 75 = .ok (.iload_n 3, 1) := by decide +kernel
theorem dX5_undo_76 : decode cX5_undo 76 = .ok (.iconst 2, 1) := by decide +kernel
theorem dX5_undo_77 : decode cX5_undo 77 = .ok (.iadd, 1) := by decide +kernel
theorem dX5_undo_78 : decode cX5_undo 78 = .ok (.iaload, 1) := by decide +kernel
theorem dX5_undo_79 : decode cX5_undo 79 = .ok (.iastore, 1) := by decide +kernel
theorem dX5_undo_80 : decode cX5_undo 80 = .ok (.iconst 0, 1) := by decide +kernel
theorem dX5_undo_81 : decode cX5_undo 81 = .ok (.istore 4, 2) := by decide +kernel
theorem dX5_undo_83 : decode cX5_undo 83 = .ok (.iload 4, 2) := by decide +kernel
theorem dX5_undo_85 : decode cX5_undo 85 = .ok (.bipush 6, 2) := by decide +kernel
theorem dX5_undo_87 : decode cX5_undo 87 = .ok (.if_icmp .ge 34, 3) := by decide +kernel
theorem dX5_undo_90 : decode cX5_undo 90 = .ok (.aload_n 0, 1) := by decide +kernel
theorem dX5_undo_91 : decode cX5_undo 91 = .ok (.getfield 25, 3) := by decide +kernel
theorem dX5_undo_94 : decode cX5_undo 94 = .ok (.bipush 10, 2) := by decide +kernel
theorem dX5_undo_96 : decode cX5_undo 96 = .ok (.iconst 5, 1) := by decide +kernel
theorem dX5_undo_97 : decode cX5_undo 97 = .ok (.iload 4, 2) := by decide +kernel
theorem dX5_undo_99 : decode cX5_undo 99 = .ok (.imul, 1) := by decide +kernel
theorem dX5_undo_100 : decode cX5_undo 100 = .ok (.iadd, 1) := by decide +kernel
theorem dX5_undo_101 : decode cX5_undo 101 = .ok (.iconst 1, 1) := by decide +kernel
theorem dX5_undo_102 : decode cX5_undo 102 = .ok (.iadd, 1) := by decide +kernel
theorem dX5_undo_103 : decode cX5_undo 103 = .ok (.aload_n 0, 1) := by decide +kernel
theorem dX5_undo_104 : decode cX5_undo 104 = .ok (.getfield 25, 3) := by decide +kernel
theorem dX5_undo_107 : decode cX5_undo 107 = .ok (.iload_n 3, 1) := by decide +kernel
theorem dX5_undo_108 : decode cX5_undo 108 = .ok (.iconst 3, 1) := by decide +kernel
theorem dX5_undo_109 : decode cX5_undo 109 = .ok (.iadd, 1) := by decide +kernel
theorem dX5_undo_110 : decode cX5_undo 110 = .ok (.iload 4, 2) := by decide +kernel
theorem dX5_undo_112 : decode cX5_undo 112 = .ok (.iadd, 1) := by decide +kernel
theorem dX5_undo_113 : decode cX5_undo 113 = .ok (.iaload, 1) := by decide +kernel
theorem dX5_undo_114 : decode cX5_undo 114 = .ok (.iastore, 1) := by decide +kernel
theorem dX5_undo_115 : decode cX5_undo 115 = .ok (.iinc 4 1, 3) := by decide +kernel
theorem dX5_undo_118 : decode cX5_undo 118 = .ok (.goto (-35), 3) := by decide +kernel
theorem dX5_undo_121 : decode cX5_undo 121 = .ok (.aload_n 0, 1) := by decide +kernel
theorem dX5_undo_122 : decode cX5_undo 122 = .ok (.getfield 25, 3) := by decide +kernel
theorem dX5_undo_125 : decode cX5_undo 125 = .ok (.bipush 9, 2) := by decide +kernel
theorem dX5_undo_127 : decode cX5_undo 127 = .ok (.iload_n 1, 1) := by decide +kernel
theorem dX5_undo_128 : decode cX5_undo 128 = .ok (.iastore, 1) := by decide +kernel
theorem dX5_undo_129 : decode cX5_undo 129 = .ok (.iload_n 2, 1) := by decide +kernel
theorem dX5_undo_130 : decode cX5_undo 130 = .ok (.ireturn, 1) := by decide +kernel
theorem dX5_keep_0 : decode cX5_keep 0 = .ok (.iload_n 1, 1) := by decide +kernel
theorem dX5_keep_1 : decode cX5_keep 1 = .ok (.iconst 0, 1) := by decide +kernel
theorem dX5_keep_2 : decode cX5_keep 2 = .ok (.iconst 2, 1) := by decide +kernel
theorem dX5_keep_3 : decode cX5_keep 3 = .ok (.invokestatic 73, 3) := by decide +kernel
theorem dX5_keep_6 : decode cX5_keep 6 = .ok (.ifCond .ne 5, 3) := by decide +kernel
theorem dX5_keep_9 : decode cX5_keep 9 = .ok (.iconst (-1), 1) := by decide +kernel
theorem dX5_keep_10 : decode cX5_keep 10 = .ok (.ireturn, 1) := by decide +kernel
theorem dX5_keep_11 : decode cX5_keep 11 = .ok (.aload_n 0, 1) := by decide +kernel
theorem dX5_keep_12 : decode cX5_keep 12 = .ok (.invokevirtual 176, 3) := by decide +kernel
theorem dX5_keep_15 : decode cX5_keep 15 = .ok (.ifCond .ne 6, 3) := by decide +kernel
theorem dX5_keep_18 : decode cX5_keep 18 = .ok (.bipush (-4), 2) := by decide +kernel
theorem dX5_keep_20 : decode cX5_keep 20 = .ok (.ireturn, 1) := by decide +kernel
theorem dX5_keep_21 : decode cX5_keep 21 = .ok (.aload_n 0, 1) := by decide +kernel
theorem dX5_keep_22 : decode cX5_keep 22 = .ok (.getfield 25, 3) := by decide +kernel
theorem dX5_keep_25 : decode cX5_keep 25 = .ok (.iconst 0, 1) := by decide +kernel
theorem dX5_keep_26 : decode cX5_keep 26 = .ok (.aload_n 0, 1) := by decide +kernel
theorem dX5_keep_27 : decode cX5_keep 27 = .ok (.getfield 31, 3) := by decide +kernel
theorem dX5_keep_30 : decode cX5_keep 30 = .ok (.sipush 400, 3) := by decide +kernel
theorem dX5_keep_33 : decode cX5_keep 33 = .ok (.iload_n 1, 1) := by decide +kernel
theorem dX5_keep_34 : decode cX5_keep 34 = .ok (.imul, 1) := by decide +kernel
theorem dX5_keep_35 : decode cX5_keep 35 = .ok (.invokestatic 129, 3) := by decide +kernel
theorem dX5_keep_38 : decode cX5_keep 38 = .ok (.aload_n 0, 1) := by decide +kernel
theorem dX5_keep_39 : decode cX5_keep 39 = .ok (.getfield 34, 3) := by decide +kernel
theorem dX5_keep_42 : decode cX5_keep 42 = .ok (.iload_n 1, 1) := by decide +kernel
theorem dX5_keep_43 : decode cX5_keep 43 = .ok (.iconst 1, 1) := by decide +kernel
theorem dX5_keep_44 : decode cX5_keep 44 = .ok (.bastore, 1) := by decide +kernel
theorem dX5_keep_45 : decode cX5_keep 45 = .ok (.aload_n 0, 1) := by decide +kernel
theorem dX5_keep_46 : decode cX5_keep 46 = .ok (.getfield 25, 3) := by decide +kernel
theorem dX5_keep_49 : decode cX5_keep 49 = .ok (.bipush 9, 2) := by decide +kernel
theorem dX5_keep_51 : decode cX5_keep 51 = .ok (.iaload, 1) := by decide +kernel
theorem dX5_keep_52 : decode cX5_keep 52 = .ok (.ireturn, 1) := by decide +kernel
theorem dX5_on_0 : decode cX5_on 0 = .ok (.iload_n 1, 1) := by decide +kernel
theorem dX5_on_1 : decode cX5_on 1 = .ok (.iconst 0, 1) := by decide +kernel
theorem dX5_on_2 : decode cX5_on 2 = .ok (.iconst 2, 1) := by decide +kernel
theorem dX5_on_3 : decode cX5_on 3 = .ok (.invokestatic 73, 3) := by decide +kernel
theorem dX5_on_6 : decode cX5_on 6 = .ok (.ifCond .ne 5, 3) := by decide +kernel
theorem dX5_on_9 : decode cX5_on 9 = .ok (.iconst (-1), 1) := by decide +kernel
theorem dX5_on_10 : decode cX5_on 10 = .ok (.ireturn, 1) := by decide +kernel
theorem dX5_on_11 : decode cX5_on 11 = .ok (.aload_n 0, 1) := by decide +kernel
theorem dX5_on_12 : decode cX5_on 12 = .ok (.getfield 34, 3) := by decide +kernel
theorem dX5_on_15 : decode cX5_on 15 = .ok (.iload_n 1, 1) := by decide +kernel
theorem dX5_on_16 : decode cX5_on 16 = .ok (.baload, 1) := by decide +kernel
theorem dX5_on_17 : decode cX5_on 17 = .ok (.ifCond .ne 9, 3) := by decide +kernel
theorem dX5_on_20 : decode cX5_on 20 = .ok (.aload_n 0, 1) := by decide +kernel
theorem dX5_on_21 : decode cX5_on 21 = .ok (.iconst 1, 1) := by decide +kernel
theorem dX5_on_22 : decode cX5_on 22 = .ok (.invokevirtual 81, 3) := by decide +kernel
theorem dX5_on_25 : decode cX5_on 25 = .ok (.ireturn, 1) := by decide +kernel
theorem dX5_on_26 : decode cX5_on 26 = .ok (.aload_n 0, 1) := by decide +kernel
theorem dX5_on_27 : decode cX5_on 27 = .ok (.getfield 31, 3) := by decide +kernel
theorem dX5_on_30 : decode cX5_on 30 = .ok (.sipush 400, 3) := by decide +kernel
theorem dX5_on_33 : decode cX5_on 33 = .ok (.iload_n 1, 1) := by decide +kernel
theorem dX5_on_34 : decode cX5_on 34 = .ok (.imul, 1) := by decide +kernel
theorem dX5_on_35 : decode cX5_on 35 = .ok (.aload_n 0, 1) := by decide +kernel
theorem dX5_on_36 : decode cX5_on 36 = .ok (.getfield 25, 3) := by decide +kernel
theorem dX5_on_39 : decode cX5_on 39 = .ok (.iconst 0, 1) := by decide +kernel
theorem dX5_on_40 : decode cX5_on 40 = .ok (.invokestatic 129, 3) := by decide +kernel
theorem dX5_on_43 : decode cX5_on 43 = .ok (.aload_n 0, 1) := by decide +kernel
theorem dX5_on_44 : decode cX5_on 44 = .ok (.getfield 25, 3) := by decide +kernel
theorem dX5_on_47 : decode cX5_on 47 = .ok (.bipush 9, 2) := by decide +kernel
theorem dX5_on_49 : decode cX5_on 49 = .ok (.iaload, 1) := by decide +kernel
theorem dX5_on_50 : decode cX5_on 50 = .ok (.ireturn, 1) := by decide +kernel
theorem dX5_belong_0 : decode cX5_belong 0 = .ok (.aload_n 0, 1) := by decide +kernel
theorem dX5_belong_1 : decode cX5_belong 1 = .ok (.invokevirtual 165, 3) := by decide +kernel
theorem dX5_belong_4 : decode cX5_belong 4 = .ok (.ireturn, 1) := by decide +kernel
theorem dX5_laws_0 : decode cX5_laws 0 = .ok (.aload_n 0, 1) := by decide +kernel
theorem dX5_laws_1 : decode cX5_laws 1 = .ok (.invokevirtual 176, 3) := by decide +kernel
theorem dX5_laws_4 : decode cX5_laws 4 = .ok (.ifCond .ne 6, 3) := by decide +kernel
theorem dX5_laws_7 : decode cX5_laws 7 = .ok (.bipush (-4), 2) := by decide +kernel
theorem dX5_laws_9 : decode cX5_laws 9 = .ok (.ireturn, 1) := by decide +kernel
theorem dX5_laws_10 : decode cX5_laws 10 = .ok (.aload_n 0, 1) := by decide +kernel
theorem dX5_laws_11 : decode cX5_laws 11 = .ok (.invokevirtual 165, 3) := by decide +kernel
theorem dX5_laws_14 : decode cX5_laws 14 = .ok (.istore_n 1, 1) := by decide +kernel
theorem dX5_laws_15 : decode cX5_laws 15 = .ok (.bipush 7, 2) := by decide +kernel
theorem dX5_laws_17 : decode cX5_laws 17 = .ok (.aload_n 0, 1) := by decide +kernel
theorem dX5_laws_18 : decode cX5_laws 18 = .ok (.getfield 25, 3) := by decide +kernel
theorem dX5_laws_21 : decode cX5_laws 21 = .ok (.iconst 3, 1) := by decide +kernel
theorem dX5_laws_22 : decode cX5_laws 22 = .ok (.iaload, 1) := by decide +kernel
theorem dX5_laws_23 : decode cX5_laws 23 = .ok (.aload_n 0, 1) := by decide +kernel
theorem dX5_laws_24 : decode cX5_laws 24 = .ok (.getfield 25, 3) := by decide +kernel
theorem dX5_laws_27 : decode cX5_laws 27 = .ok (.iconst 4, 1) := by decide +kernel
theorem dX5_laws_28 : decode cX5_laws 28 = .ok (.iaload, 1) := by decide +kernel
theorem dX5_laws_29 : decode cX5_laws 29 = .ok (.ior, 1) := by decide +kernel
theorem dX5_laws_30 : decode cX5_laws 30 = .ok (.iconst (-1), 1) := by decide +kernel
theorem dX5_laws_31 : decode cX5_laws 31 = .ok (.ixor, 1) := by decide +kernel
theorem dX5_laws_32 : decode cX5_laws 32 = .ok (.iand, 1) := by decide +kernel
theorem dX5_laws_33 : decode cX5_laws 33 = .ok (.istore_n 2, 1) := by decide +kernel
theorem dX5_laws_34 : decode cX5_laws 34 = .ok (.iconst 0, 1) := by decide +kernel
theorem dX5_laws_35 : decode cX5_laws 35 = .ok (.istore_n 3, 1) := by decide +kernel
theorem dX5_laws_36 : decode cX5_laws 36 = .ok (.iconst 0, 1) := by decide +kernel
theorem dX5_laws_37 : decode cX5_laws 37 = .ok (.istore 4, 2) := by decide +kernel
theorem dX5_laws_39 : decode cX5_laws 39 = .ok (.iload 4, 2) := by decide +kernel
theorem dX5_laws_41 : decode cX5_laws 41 = .ok (.iconst 3, 1) := by decide +kernel
theorem dX5_laws_42 : decode cX5_laws 42 = .ok (.if_icmp .ge 111, 3) := by decide +kernel
theorem dX5_laws_45 : decode cX5_laws 45 = .ok (.iconst 0, 1) := by decide +kernel
theorem dX5_laws_46 : decode cX5_laws 46 = .ok (.istore 5, 2) := by decide +kernel
theorem dX5_laws_48 : decode cX5_laws 48 = .ok (.iconst 0, 1) := by decide +kernel
theorem dX5_laws_49 : decode cX5_laws 49 = .ok (.istore 6, 2) := by decide +kernel
theorem dX5_laws_51 : decode cX5_laws 51 = .ok (.iload 6, 2) := by decide +kernel
theorem dX5_laws_53 : decode cX5_laws 53 = .ok (.aload_n 0, 1) := by decide +kernel
theorem dX5_laws_54 : decode cX5_laws 54 = .ok (.getfield 25, 3) := by decide +kernel
theorem dX5_laws_57 : decode cX5_laws 57 = .ok (.bipush 7, 2) := by decide +kernel
theorem dX5_laws_59 : decode cX5_laws 59 = .ok (.iaload, 1) := by decide +kernel
theorem dX5_laws_60 : decode cX5_laws 60 = .ok (.if_icmp .ge 55, 3) := by decide +kernel
theorem dX5_laws_63 : decode cX5_laws 63 = .ok (.iload 5, 2) := by decide +kernel
theorem dX5_laws_65 : decode cX5_laws 65 = .ok (.iload_n 1, 1) := by decide +kernel
theorem dX5_laws_66 : decode cX5_laws 66 = .ok (.iload 6, 2) := by decide +kernel
theorem dX5_laws_68 : decode cX5_laws 68 = .ok (.invokestatic 143, 3) := by decide +kernel
theorem dX5_laws_71 : decode cX5_laws 71 = .ok (.ifCond .eq 34, 3) := by decide +kernel
theorem dX5_laws_74 : decode cX5_laws 74 = .ok (.aload_n 0, 1) := by decide +kernel
theorem dX5_laws_75 : decode cX5_laws 75 = .ok (.getfield 25, 3) := by decide +kernel
theorem dX5_laws_78 : decode cX5_laws 78 = .ok (.bipush 10, 2) := by decide +kernel
theorem dX5_laws_80 : decode cX5_laws 80 = .ok (.iconst 5, 1) := by decide +kernel
theorem dX5_laws_81 : decode cX5_laws 81 = .ok (.iload 6, 2) := by decide +kernel
theorem dX5_laws_83 : decode cX5_laws 83 = .ok (.imul, 1) := by decide +kernel
theorem dX5_laws_84 : decode cX5_laws 84 = .ok (.iadd, 1) := by decide +kernel
theorem dX5_laws_85 : decode cX5_laws 85 = .ok (.iconst 4, 1) := by decide +kernel
theorem dX5_laws_86 : decode cX5_laws 86 = .ok (.iadd, 1) := by decide +kernel
theorem dX5_laws_87 : decode cX5_laws 87 = .ok (.iaload, 1) := by decide +kernel
theorem dX5_laws_88 : decode cX5_laws 88 = .ok (.iload 4, 2) := by decide +kernel
theorem dX5_laws_90 : decode cX5_laws 90 = .ok (.invokestatic 143, 3) := by decide +kernel
theorem dX5_laws_93 : decode cX5_laws 93 = .ok (.ifCond .eq 12, 3) := by decide +kernel
theorem dX5_laws_96 : decode cX5_laws 96 = .ok (.aload_n 0, 1) := by decide +kernel
theorem dX5_laws_97 : decode cX5_laws 97 = .ok (.iload 6, 2) := by decide +kernel
theorem dX5_laws_99 : decode cX5_laws 99 = .ok (.invokevirtual 147, 3) := by decide +kernel
theorem dX5_laws_102 : decode cX5_laws 102 = .ok (.goto 4, 3) := by decide +kernel
theorem dX5_laws_105 : decode cX5_laws 105 = .ok (.iconst 0, 1) := by decide +kernel
theorem dX5_laws_106 : decode cX5_laws 106 = .ok (.iadd, 1) := by decide +kernel
theorem dX5_laws_107 : decode cX5_laws 107 = .ok (.istore 5, 2) := by decide +kernel
theorem dX5_laws_109 : decode cX5_laws 109 = .ok (.iinc 6 1, 3) := by decide +kernel
theorem dX5_laws_112 : decode cX5_laws 112 = .ok (.goto (-61), 3) := by decide +kernel
theorem dX5_laws_115 : decode cX5_laws 115 = .ok (.iload_n 3, 1) := by decide +kernel
theorem dX5_laws_116 : decode cX5_laws 116 = .ok (.iload_n 2, 1) := by decide +kernel
theorem dX5_laws_117 : decode cX5_laws 117 = .ok (.iload 4, 2) := by decide +kernel
theorem dX5_laws_119 : decode cX5_laws 119 = .ok (.invokestatic 143, 3) := by decide +kernel
theorem dX5_laws_122 : decode cX5_laws 122 = .ok (.ifCond .eq 22, 3) := by decide +kernel
theorem dX5_laws_125 : decode cX5_laws 125 = .ok (.iconst 2, 1) := by decide +kernel
theorem dX5_laws_126 : decode cX5_laws 126 = .ok (.iload 5, 2) := by decide +kernel
theorem dX5_laws_128 : decode cX5_laws 128 = .ok (.imul, 1) := by decide +kernel
theorem dX5_laws_129 : decode cX5_laws 129 = .ok (.aload_n 0, 1) := by decide +kernel
theorem dX5_laws_130 : decode cX5_laws 130 = .ok (.iload_n 1, 1) := by decide +kernel
theorem dX5_laws_131 : decode cX5_laws 131 = .ok (.invokevirtual 169, 3) := by decide +kernel
theorem dX5_laws_134 : decode cX5_laws 134 = .ok (.if_icmp .le 10, 3) := by decide +kernel
theorem dX5_laws_137 : decode cX5_laws 137 = .ok (.iconst 1, 1) := by decide +kernel
theorem dX5_laws_138 : decode cX5_laws 138 = .ok (.iload 4, 2) := by decide +kernel
theorem dX5_laws_140 : decode cX5_laws 140 = .ok (.ishl, 1) := by decide +kernel
theorem dX5_laws_141 : decode cX5_laws 141 = .ok (.goto 4, 3) := by decide +kernel
theorem dX5_laws_144 : decode cX5_laws 144 = .ok (.iconst 0, 1) := by decide +kernel
theorem dX5_laws_145 : decode cX5_laws 145 = .ok (.ior, 1) := by decide +kernel
theorem dX5_laws_146 : decode cX5_laws 146 = .ok (.istore_n 3, 1) := by decide +kernel
theorem dX5_laws_147 : decode cX5_laws 147 = .ok (.iinc 4 1, 3) := by decide +kernel
theorem dX5_laws_150 : decode cX5_laws 150 = .ok (.goto (-111), 3) := by decide +kernel
theorem dX5_laws_153 : decode cX5_laws 153 = .ok (.aload_n 0, 1) := by decide +kernel
theorem dX5_laws_154 : decode cX5_laws 154 = .ok (.iload_n 2, 1) := by decide +kernel
theorem dX5_laws_155 : decode cX5_laws 155 = .ok (.iload_n 3, 1) := by decide +kernel
theorem dX5_laws_156 : decode cX5_laws 156 = .ok (.invokevirtual 93, 3) := by decide +kernel
theorem dX5_laws_159 : decode cX5_laws 159 = .ok (.ireturn, 1) := by decide +kernel
theorem dX5_laysShares_0 : decode cX5_laysShares 0 = .ok (.aload_n 0, 1) := by decide +kernel
theorem dX5_laysShares_1 : decode cX5_laysShares 1 = .ok (.iload_n 1, 1) := by decide +kernel
theorem dX5_laysShares_2 : decode cX5_laysShares 2 = .ok (.aload_n 0, 1) := by decide +kernel
theorem dX5_laysShares_3 : decode cX5_laysShares 3 = .ok (.getfield 25, 3) := by decide +kernel
theorem dX5_laysShares_6 : decode cX5_laysShares 6 = .ok (.bipush 7, 2) := by decide +kernel
theorem dX5_laysShares_8 : decode cX5_laysShares 8 = .ok (.iaload, 1) := by decide +kernel
theorem dX5_laysShares_9 : decode cX5_laysShares 9 = .ok (.invokevirtual 85, 3) := by decide +kernel
theorem dX5_laysShares_12 : decode cX5_laysShares 12 = .ok (.iconst 0, 1) := by decide +kernel
theorem dX5_laysShares_13 : decode cX5_laysShares 13 = .ok (.istore_n 2, 1) := by decide +kernel
theorem dX5_laysShares_14 : decode cX5_laysShares 14 = .ok (.iload_n 2, 1) := by decide +kernel
theorem dX5_laysShares_15 : decode cX5_laysShares 15 = .ok (.aload_n 0, 1) := by decide +kernel
theorem dX5_laysShares_16 : decode cX5_laysShares 16 = .ok (.getfield 25, 3) := by decide +kernel
theorem dX5_laysShares_19 : decode cX5_laysShares 19 = .ok (.bipush 7, 2) := by decide +kernel
theorem dX5_laysShares_21 : decode cX5_laysShares 21 = .ok (.iaload, 1) := by decide +kernel
theorem dX5_laysShares_22 : decode cX5_laysShares 22 = .ok (.if_icmp .ge 26, 3) := by decide +kernel
theorem dX5_laysShares_25 : decode cX5_laysShares 25 = .ok (.aload_n 0, 1) := by decide +kernel
theorem dX5_laysShares_26 : decode cX5_laysShares 26 = .ok (.getfield 13, 3) := by decide +kernel
theorem dX5_laysShares_29 : decode cX5_laysShares 29 = .ok (.bipush 40, 2) := by decide +kernel
theorem dX5_laysShares_31 : decode cX5_laysShares 31 = .ok (.iload_n 1, 1) := by decide +kernel
theorem dX5_laysShares_32 : decode cX5_laysShares 32 = .ok (.imul, 1) := by decide +kernel
theorem dX5_laysShares_33 : decode cX5_laysShares 33 = .ok (.iload_n 2, 1) := by decide +kernel
theorem dX5_laysShares_34 : decode cX5_laysShares 34 = .ok (.iadd, 1) := by decide +kernel
theorem dX5_laysShares_35 : decode cX5_laysShares 35 = .ok (.aload_n 0, 1) := by decide +kernel
theorem dX5_laysShares_36 : decode cX5_laysShares 36 = .ok (.getfield 41, 3) := by decide +kernel
theorem dX5_laysShares_39 : decode cX5_laysShares 39 = .ok (.iload_n 2, 1) := by decide +kernel
theorem dX5_laysShares_40 : decode cX5_laysShares 40 = .ok (.iaload, 1) := by decide +kernel
theorem dX5_laysShares_41 : decode cX5_laysShares 41 = .ok (.iastore, 1) := by decide +kernel
theorem dX5_laysShares_42 : decode cX5_laysShares 42 = .ok (.iinc 2 1, 3) := by decide +kernel
theorem dX5_laysShares_45 : decode cX5_laysShares 45 = .ok (.goto (-31), 3) := by decide +kernel
theorem dX5_laysShares_48 : decode cX5_laysShares 48 = .ok (.return_, 1) := by decide +kernel
theorem dX5_seats_0 : decode cX5_seats 0 = .ok (.iload_n 1, 1) := by decide +kernel
theorem dX5_seats_1 : decode cX5_seats 1 = .ok (.iconst 0, 1) := by decide +kernel
theorem dX5_seats_2 : decode cX5_seats 2 = .ok (.bipush 20, 2) := by decide +kernel
theorem dX5_seats_4 : decode cX5_seats 4 = .ok (.invokestatic 73, 3) := by decide +kernel
theorem dX5_seats_7 : decode cX5_seats 7 = .ok (.ifCond .eq 10, 3) := by decide +kernel
theorem dX5_seats_10 : decode cX5_seats 10 = .ok (.iload_n 2, 1) := by decide +kernel
theorem dX5_seats_11 : decode cX5_seats 11 = .ok (.invokestatic 77, 3) := by decide +kernel
theorem dX5_seats_14 : decode cX5_seats 14 = .ok (.ifCond .ne 5, 3) := by decide +kernel
theorem dX5_seats_17 : decode cX5_seats 17 = .ok (.iconst (-1), 1) := by decide +kernel
theorem dX5_seats_18 : decode cX5_seats 18 = .ok (.ireturn, 1) := by decide +kernel
theorem dX5_seats_19 : decode cX5_seats 19 = .ok (.aload_n 0, 1) := by decide +kernel
theorem dX5_seats_20 : decode cX5_seats 20 = .ok (.invokevirtual 176, 3) := by decide +kernel
theorem dX5_seats_23 : decode cX5_seats 23 = .ok (.ifCond .ne 6, 3) := by decide +kernel
theorem dX5_seats_26 : decode cX5_seats 26 = .ok (.bipush (-4), 2) := by decide +kernel
theorem dX5_seats_28 : decode cX5_seats 28 = .ok (.ireturn, 1) := by decide +kernel
theorem dX5_seats_29 : decode cX5_seats 29 = .ok (.iconst 0, 1) := by decide +kernel
theorem dX5_seats_30 : decode cX5_seats 30 = .ok (.istore_n 3, 1) := by decide +kernel
theorem dX5_seats_31 : decode cX5_seats 31 = .ok (.iload_n 3, 1) := by decide +kernel
theorem dX5_seats_32 : decode cX5_seats 32 = .ok (.bipush 6, 2) := by decide +kernel
theorem dX5_seats_34 : decode cX5_seats 34 = .ok (.if_icmp .ge 16, 3) := by decide +kernel
theorem dX5_seats_37 : decode cX5_seats 37 = .ok (.aload_n 0, 1) := by decide +kernel
theorem dX5_seats_38 : decode cX5_seats 38 = .ok (.getfield 41, 3) := by decide +kernel
theorem dX5_seats_41 : decode cX5_seats 41 = .ok (.iload_n 3, 1) := by decide +kernel
theorem dX5_seats_42 : decode cX5_seats 42 = .ok (.iconst 0, 1) := by decide +kernel
theorem dX5_seats_43 : decode cX5_seats 43 = .ok (.iastore, 1) := by decide +kernel
theorem dX5_seats_44 : decode cX5_seats 44 = .ok (.iinc 3 1, 3) := by decide +kernel
theorem dX5_seats_47 : decode cX5_seats 47 = .ok (.goto (-16), 3) := by decide +kernel
theorem dX5_seats_50 : decode cX5_seats 50 = .ok (.aload_n 0, 1) := by decide +kernel
theorem dX5_seats_51 : decode cX5_seats 51 = .ok (.invokevirtual 165, 3) := by decide +kernel
theorem dX5_seats_54 : decode cX5_seats 54 = .ok (.istore_n 3, 1) := by decide +kernel
theorem dX5_seats_55 : decode cX5_seats 55 = .ok (.iconst 0, 1) := by decide +kernel
theorem dX5_seats_56 : decode cX5_seats 56 = .ok (.istore 4, 2) := by decide +kernel
theorem dX5_seats_58 : decode cX5_seats 58 = .ok (.iconst 0, 1) := by decide +kernel
theorem dX5_seats_59 : decode cX5_seats 59 = .ok (.istore 5, 2) := by decide +kernel
theorem dX5_seats_61 : decode cX5_seats 61 = .ok (.iload 5, 2) := by decide +kernel
theorem dX5_seats_63 : decode cX5_seats 63 = .ok (.iload_n 1, 1) := by decide +kernel
theorem dX5_seats_64 : decode cX5_seats 64 = .ok (.if_icmp .ge 148, 3) := by decide +kernel
theorem dX5_seats_67 : decode cX5_seats 67 = .ok (.bipush (-9), 2) := by decide +kernel
theorem dX5_seats_69 : decode cX5_seats 69 = .ok (.istore 6, 2) := by decide +kernel
theorem dX5_seats_71 : decode cX5_seats 71 = .ok (.iconst 0, 1) := by decide +kernel
theorem dX5_seats_72 : decode cX5_seats 72 = .ok (.istore 7, 2) := by decide +kernel
theorem dX5_seats_74 : decode cX5_seats 74 = .ok (.iload 7, 2) := by decide +kernel
theorem dX5_seats_76 : decode cX5_seats 76 = .ok (.aload_n 0, 1) := by decide +kernel
theorem dX5_seats_77 : decode cX5_seats 77 = .ok (.getfield 25, 3) := by decide +kernel
theorem dX5_seats_80 : decode cX5_seats 80 = .ok (.bipush 7, 2) := by decide +kernel
theorem dX5_seats_82 : decode cX5_seats 82 = .ok (.iaload, 1) := by decide +kernel
theorem dX5_seats_83 : decode cX5_seats 83 = .ok (.if_icmp .ge 102, 3) := by decide +kernel
theorem dX5_seats_86 : decode cX5_seats 86 = .ok (.iload_n 3, 1) := by decide +kernel
theorem dX5_seats_87 : decode cX5_seats 87 = .ok (.iload 7, 2) := by decide +kernel
theorem dX5_seats_89 : decode cX5_seats 89 = .ok (.invokestatic 143, 3) := by decide +kernel
theorem dX5_seats_92 : decode cX5_seats 92 = .ok (.ifCond .eq 16, 3) := by decide +kernel
theorem dX5_seats_95 : decode cX5_seats 95 = .ok (.aload_n 0, 1) := by decide +kernel
theorem dX5_seats_96 : decode cX5_seats 96 = .ok (.iload 7, 2) := by decide +kernel
theorem dX5_seats_98 : decode cX5_seats 98 = .ok (.invokevirtual 147, 3) := by decide +kernel
theorem dX5_seats_101 : decode cX5_seats 101 = .ok (.ifCond .le 7, 3) := by decide +kernel
theorem dX5_seats_104 : decode cX5_seats 104 = .ok (.iconst 1, 1) := by decide +kernel
theorem dX5_seats_105 : decode cX5_seats 105 = .ok (.goto 4, 3) := by decide +kernel
theorem dX5_seats_108 : decode cX5_seats 108 = .ok (.iconst 0, 1) := by decide +kernel
theorem dX5_seats_109 : decode cX5_seats 109 = .ok (.istore 8, 2) := by decide +kernel
theorem dX5_seats_111 : decode cX5_seats 111 = .ok (.iload 8, 2) := by decide +kernel
theorem dX5_seats_113 : decode cX5_seats 113 = .ok (.ifCond .eq 49, 3) := by decide +kernel
theorem dX5_seats_116 : decode cX5_seats 116 = .ok (.iload 6, 2) := by decide +kernel
theorem dX5_seats_118 : decode cX5_seats 118 = .ok (.bipush (-9), 2) := by decide +kernel
theorem dX5_seats_120 : decode cX5_seats 120 = .ok (.if_icmp .eq 38, 3) := by decide +kernel
theorem dX5_seats_123 : decode cX5_seats 123 = .ok (.aload_n 0, 1) := by decide +kernel
theorem dX5_seats_124 : decode cX5_seats 124 = .ok (.iload 7, 2) := by decide +kernel
theorem dX5_seats_126 : decode cX5_seats 126 = .ok (.invokevirtual 147, 3) := by decide +kernel
theorem dX5_seats_129 : decode cX5_seats 129 = .ok (.aload_n 0, 1) := by decide +kernel
theorem dX5_seats_130 : decode cX5_seats 130 = .ok (.getfield 41, 3) := by decide +kernel
theorem dX5_seats_133 : decode cX5_seats 133 = .ok (.iload 6, 2) := by decide +kernel
theorem dX5_seats_135 : decode cX5_seats 135 = .ok (.iaload, 1) := by decide +kernel
theorem dX5_seats_136 : decode cX5_seats 136 = .ok (.iconst 1, 1) := by decide +kernel
theorem dX5_seats_137 : decode cX5_seats 137 = .ok (.iadd, 1) := by decide +kernel
theorem dX5_seats_138 : decode cX5_seats 138 = .ok (.imul, 1) := by decide +kernel
theorem dX5_seats_139 : decode cX5_seats 139 = .ok (.aload_n 0, 1) := by decide +kernel
theorem dX5_seats_140 : decode cX5_seats 140 = .ok (.iload 6, 2) := by decide +kernel
theorem dX5_seats_142 : decode cX5_seats 142 = .ok (.invokevirtual 147, 3) := by decide +kernel
theorem dX5_seats_145 : decode cX5_seats 145 = .ok (.aload_n 0, 1) := by decide +kernel
theorem dX5_seats_146 : decode cX5_seats 146 = .ok (.getfield 41, 3) := by decide +kernel
theorem dX5_seats_149 : decode cX5_seats 149 = .ok (.iload 7, 2) := by decide +kernel
theorem dX5_seats_151 : decode cX5_seats 151 = .ok (.iaload, 1) := by decide +kernel
theorem dX5_seats_152 : decode cX5_seats 152 = .ok (.iconst 1, 1) := by decide +kernel
theorem dX5_seats_153 : decode cX5_seats 153 = .ok (.iadd, 1) := by decide +kernel
theorem dX5_seats_154 : decode cX5_seats 154 = .ok (.imul, 1) := by decide +kernel
theorem dX5_seats_155 : decode cX5_seats 155 = .ok (.if_icmp .le 7, 3) := by decide +kernel
theorem dX5_seats_158 : decode cX5_seats 158 = .ok (.iconst 1, 1) := by decide +kernel
theorem dX5_seats_159 : decode cX5_seats 159 = .ok (.goto 4, 3) := by decide +kernel
theorem dX5_seats_162 : decode cX5_seats 162 = .ok (.iconst 0, 1) := by decide +kernel
theorem dX5_seats_163 : decode cX5_seats 163 = .ok (.istore 9, 2) := by decide +kernel
theorem dX5_seats_165 : decode cX5_seats 165 = .ok (.iload 9, 2) := by decide +kernel
theorem dX5_seats_167 : decode cX5_seats 167 = .ok (.ifCond .eq 8, 3) := by decide +kernel
theorem dX5_seats_170 : decode cX5_seats 170 = .ok (.iload 7, 2) := by decide +kernel
theorem dX5_seats_172 : decode cX5_seats 172 = .ok (.goto 5, 3) := by decide +kernel
theorem dX5_seats_175 : decode cX5_seats 175 = .ok (.iload 6, 2) := by decide +kernel
theorem dX5_seats_177 : decode cX5_seats 177 = .ok (.istore 6, 2) := by decide +kernel
theorem dX5_seats_179 : decode cX5_seats 179 = .ok (.iinc 7 1, 3) := by decide +kernel
theorem dX5_seats_182 : decode cX5_seats 182 = .ok (.goto (-108), 3) := by decide +kernel
theorem dX5_seats_185 : decode cX5_seats 185 = .ok (.iload 6, 2) := by decide +kernel
theorem dX5_seats_187 : decode cX5_seats 187 = .ok (.bipush (-9), 2) := by decide +kernel
theorem dX5_seats_189 : decode cX5_seats 189 = .ok (.if_icmp .eq 17, 3) := by decide +kernel
theorem dX5_seats_192 : decode cX5_seats 192 = .ok (.aload_n 0, 1) := by decide +kernel
theorem dX5_seats_193 : decode cX5_seats 193 = .ok (.getfield 41, 3) := by decide +kernel
theorem dX5_seats_196 : decode cX5_seats 196 = .ok (.iload 6, 2) := by decide +kernel
theorem dX5_seats_198 : decode cX5_seats 198 = .ok (.dup2, 1) := by decide +kernel
theorem dX5_seats_199 : decode cX5_seats 199 = .ok (.iaload, 1) := by decide +kernel
theorem dX5_seats_200 : decode cX5_seats 200 = .ok (.iconst 1, 1) := by decide +kernel
theorem dX5_seats_201 : decode cX5_seats 201 = .ok (.iadd, 1) := by decide +kernel
theorem dX5_seats_202 : decode cX5_seats 202 = .ok (.iastore, 1) := by decide +kernel
theorem dX5_seats_203 : decode cX5_seats 203 = .ok (.iinc 4 1, 3) := by decide +kernel
theorem dX5_seats_206 : decode cX5_seats 206 = .ok (.iinc 5 1, 3) := by decide +kernel
theorem dX5_seats_209 : decode cX5_seats 209 = .ok (.goto (-148), 3) := by decide +kernel
theorem dX5_seats_212 : decode cX5_seats 212 = .ok (.aload_n 0, 1) := by decide +kernel
theorem dX5_seats_213 : decode cX5_seats 213 = .ok (.iload_n 2, 1) := by decide +kernel
theorem dX5_seats_214 : decode cX5_seats 214 = .ok (.invokevirtual 198, 3) := by decide +kernel
theorem dX5_seats_217 : decode cX5_seats 217 = .ok (.iload 4, 2) := by decide +kernel
theorem dX5_seats_219 : decode cX5_seats 219 = .ok (.ireturn, 1) := by decide +kernel
theorem dX5_fewest_0 : decode cX5_fewest 0 = .ok (.aload_n 0, 1) := by decide +kernel
theorem dX5_fewest_1 : decode cX5_fewest 1 = .ok (.invokevirtual 176, 3) := by decide +kernel
theorem dX5_fewest_4 : decode cX5_fewest 4 = .ok (.ifCond .ne 6, 3) := by decide +kernel
theorem dX5_fewest_7 : decode cX5_fewest 7 = .ok (.bipush (-4), 2) := by decide +kernel
theorem dX5_fewest_9 : decode cX5_fewest 9 = .ok (.ireturn, 1) := by decide +kernel
theorem dX5_fewest_10 : decode cX5_fewest 10 = .ok (.aload_n 0, 1) := by decide +kernel
theorem dX5_fewest_11 : decode cX5_fewest 11 = .ok (.invokevirtual 165, 3) := by decide +kernel
theorem dX5_fewest_14 : decode cX5_fewest 14 = .ok (.istore_n 1, 1) := by decide +kernel
theorem dX5_fewest_15 : decode cX5_fewest 15 = .ok (.aload_n 0, 1) := by decide +kernel
theorem dX5_fewest_16 : decode cX5_fewest 16 = .ok (.iload_n 1, 1) := by decide +kernel
theorem dX5_fewest_17 : decode cX5_fewest 17 = .ok (.invokevirtual 169, 3) := by decide +kernel
theorem dX5_fewest_20 : decode cX5_fewest 20 = .ok (.istore_n 2, 1) := by decide +kernel
theorem dX5_fewest_21 : decode cX5_fewest 21 = .ok (.bipush (-9), 2) := by decide +kernel
theorem dX5_fewest_23 : decode cX5_fewest 23 = .ok (.istore_n 3, 1) := by decide +kernel
theorem dX5_fewest_24 : decode cX5_fewest 24 = .ok (.iconst 0, 1) := by decide +kernel
theorem dX5_fewest_25 : decode cX5_fewest 25 = .ok (.istore 4, 2) := by decide +kernel
theorem dX5_fewest_27 : decode cX5_fewest 27 = .ok (.iload 4, 2) := by decide +kernel
theorem dX5_fewest_29 : decode cX5_fewest 29 = .ok (.iload_n 1, 1) := by decide +kernel
theorem dX5_fewest_30 : decode cX5_fewest 30 = .ok (.if_icmp .gt 67, 3) := by decide +kernel
theorem dX5_fewest_33 : decode cX5_fewest 33 = .ok (.iload 4, 2) := by decide +kernel
theorem dX5_fewest_35 : decode cX5_fewest 35 = .ok (.iload_n 1, 1) := by decide +kernel
theorem dX5_fewest_36 : decode cX5_fewest 36 = .ok (.iconst (-1), 1) := by decide +kernel
theorem dX5_fewest_37 : decode cX5_fewest 37 = .ok (.ixor, 1) := by decide +kernel
theorem dX5_fewest_38 : decode cX5_fewest 38 = .ok (.iand, 1) := by decide +kernel
theorem dX5_fewest_39 : decode cX5_fewest 39 = .ok (.ifCond .ne 37, 3) := by decide +kernel
theorem dX5_fewest_42 : decode cX5_fewest 42 = .ok (.iconst 2, 1) := by decide +kernel
theorem dX5_fewest_43 : decode cX5_fewest 43 = .ok (.aload_n 0, 1) := by decide +kernel
theorem dX5_fewest_44 : decode cX5_fewest 44 = .ok (.iload 4, 2) := by decide +kernel
theorem dX5_fewest_46 : decode cX5_fewest 46 = .ok (.invokevirtual 169, 3) := by decide +kernel
theorem dX5_fewest_49 : decode cX5_fewest 49 = .ok (.imul, 1) := by decide +kernel
theorem dX5_fewest_50 : decode cX5_fewest 50 = .ok (.iload_n 2, 1) := by decide +kernel
theorem dX5_fewest_51 : decode cX5_fewest 51 = .ok (.if_icmp .le 25, 3) := by decide +kernel
theorem dX5_fewest_54 : decode cX5_fewest 54 = .ok (.iload_n 3, 1) := by decide +kernel
theorem dX5_fewest_55 : decode cX5_fewest 55 = .ok (.bipush (-9), 2) := by decide +kernel
theorem dX5_fewest_57 : decode cX5_fewest 57 = .ok (.if_icmp .eq 15, 3) := by decide +kernel
theorem dX5_fewest_60 : decode cX5_fewest 60 = .ok (.iload 4, 2) := by decide +kernel
theorem dX5_fewest_62 : decode cX5_fewest 62 = .ok (.invokestatic 201, 3) := by decide +kernel
theorem dX5_fewest_65 : decode cX5_fewest 65 = .ok (.iload_n 3, 1) := by decide +kernel
theorem dX5_fewest_66 : decode cX5_fewest 66 = .ok (.invokestatic 201, 3) := by decide +kernel
theorem dX5_fewest_69 : decode cX5_fewest 69 = .ok (.if_icmp .ge 7, 3) := by decide +kernel
theorem dX5_fewest_72 : decode cX5_fewest 72 = .ok (.iconst 1, 1) := by decide +kernel
theorem dX5_fewest_73 : decode cX5_fewest 73 = .ok (.goto 4, 3) := by decide +kernel
theorem dX5_fewest_76 : decode cX5_fewest 76 = .ok (.iconst 0, 1) := by decide +kernel
theorem dX5_fewest_77 : decode cX5_fewest 77 = .ok (.istore 5, 2) := by decide +kernel
theorem dX5_fewest_79 : decode cX5_fewest 79 = .ok (.iload 5, 2) := by decide +kernel
theorem dX5_fewest_81 : decode cX5_fewest 81 = .ok (.ifCond .eq 8, 3) := by decide +kernel
theorem dX5_fewest_84 : decode cX5_fewest 84 = .ok (.iload 4, 2) := by decide +kernel
theorem dX5_fewest_86 : decode cX5_fewest 86 = .ok (.goto 4, 3) := by decide +kernel
theorem dX5_fewest_89 : decode cX5_fewest 89 = .ok (.iload_n 3, 1) := by decide +kernel
theorem dX5_fewest_90 : decode cX5_fewest 90 = .ok (.istore_n 3, 1) := by decide +kernel
theorem dX5_fewest_91 : decode cX5_fewest 91 = .ok (.iinc 4 1, 3) := by decide +kernel
theorem dX5_fewest_94 : decode cX5_fewest 94 = .ok (.goto (-67), 3) := by decide +kernel
theorem dX5_fewest_97 : decode cX5_fewest 97 = .ok (.iload_n 3, 1) := by decide +kernel
theorem dX5_fewest_98 : decode cX5_fewest 98 = .ok (.bipush (-9), 2) := by decide +kernel
theorem dX5_fewest_100 : decode cX5_fewest 100 = .ok (.if_icmp .ne 8, 3) := by decide +kernel
theorem dX5_fewest_103 : decode cX5_fewest 103 = .ok (.bipush (-9), 2) := by decide +kernel
theorem dX5_fewest_105 : decode cX5_fewest 105 = .ok (.goto 12, 3) := by decide +kernel
theorem dX5_fewest_108 : decode cX5_fewest 108 = .ok (.aload_n 0, 1) := by decide +kernel
theorem dX5_fewest_109 : decode cX5_fewest 109 = .ok (.iload_n 3, 1) := by decide +kernel
theorem dX5_fewest_110 : decode cX5_fewest 110 = .ok (.invokestatic 201, 3) := by decide +kernel
theorem dX5_fewest_113 : decode cX5_fewest 113 = .ok (.iload_n 3, 1) := by decide +kernel
theorem dX5_fewest_114 : decode cX5_fewest 114 = .ok (.invokevirtual 93, 3) := by decide +kernel
theorem dX5_fewest_117 : decode cX5_fewest 117 = .ok (.ireturn, 1) := by decide +kernel
theorem dX5_coastsIn_0 : decode cX5_coastsIn 0 = .ok (.bipush 10, 2) := by decide +kernel
theorem dX5_coastsIn_2 : decode cX5_coastsIn 2 = .ok (.aload_n 0, 1) := by decide +kernel
theorem dX5_coastsIn_3 : decode cX5_coastsIn 3 = .ok (.getfield 25, 3) := by decide +kernel
theorem dX5_coastsIn_6 : decode cX5_coastsIn 6 = .ok (.iconst 1, 1) := by decide +kernel
theorem dX5_coastsIn_7 : decode cX5_coastsIn 7 = .ok (.iaload, 1) := by decide +kernel
theorem dX5_coastsIn_8 : decode cX5_coastsIn 8 = .ok (.imul, 1) := by decide +kernel
theorem dX5_coastsIn_9 : decode cX5_coastsIn 9 = .ok (.aload_n 0, 1) := by decide +kernel
theorem dX5_coastsIn_10 : decode cX5_coastsIn 10 = .ok (.getfield 25, 3) := by decide +kernel
theorem dX5_coastsIn_13 : decode cX5_coastsIn 13 = .ok (.iconst 2, 1) := by decide +kernel
theorem dX5_coastsIn_14 : decode cX5_coastsIn 14 = .ok (.iaload, 1) := by decide +kernel
theorem dX5_coastsIn_15 : decode cX5_coastsIn 15 = .ok (.iadd, 1) := by decide +kernel
theorem dX5_coastsIn_16 : decode cX5_coastsIn 16 = .ok (.istore_n 2, 1) := by decide +kernel
theorem dX5_coastsIn_17 : decode cX5_coastsIn 17 = .ok (.iconst 0, 1) := by decide +kernel
theorem dX5_coastsIn_18 : decode cX5_coastsIn 18 = .ok (.istore_n 3, 1) := by decide +kernel
theorem dX5_coastsIn_19 : decode cX5_coastsIn 19 = .ok (.iload_n 3, 1) := by decide +kernel
theorem dX5_coastsIn_20 : decode cX5_coastsIn 20 = .ok (.iload_n 1, 1) := by decide +kernel
theorem dX5_coastsIn_21 : decode cX5_coastsIn 21 = .ok (.if_icmp .ge 22, 3) := by decide +kernel
theorem dX5_coastsIn_24 : decode cX5_coastsIn 24 = .ok (.aload_n 0, 1) := by decide +kernel
theorem dX5_coastsIn_25 : decode cX5_coastsIn 25 = .ok (.iload_n 2, 1) := by decide +kernel
theorem dX5_coastsIn_26 : decode cX5_coastsIn 26 = .ok (.bipush 10, 2) := by decide +kernel
theorem dX5_coastsIn_28 : decode cX5_coastsIn 28 = .ok (.idiv, 1) := by decide +kernel
theorem dX5_coastsIn_29 : decode cX5_coastsIn 29 = .ok (.iload_n 2, 1) := by decide +kernel
theorem dX5_coastsIn_30 : decode cX5_coastsIn 30 = .ok (.bipush 10, 2) := by decide +kernel
theorem dX5_coastsIn_32 : decode cX5_coastsIn 32 = .ok (.irem, 1) := by decide +kernel
theorem dX5_coastsIn_33 : decode cX5_coastsIn 33 = .ok (.invokevirtual 183, 3) := by decide +kernel
theorem dX5_coastsIn_36 : decode cX5_coastsIn 36 = .ok (.istore_n 2, 1) := by decide +kernel
theorem dX5_coastsIn_37 : decode cX5_coastsIn 37 = .ok (.iinc 3 1, 3) := by decide +kernel
theorem dX5_coastsIn_40 : decode cX5_coastsIn 40 = .ok (.goto (-21), 3) := by decide +kernel
theorem dX5_coastsIn_43 : decode cX5_coastsIn 43 = .ok (.iload_n 2, 1) := by decide +kernel
theorem dX5_coastsIn_44 : decode cX5_coastsIn 44 = .ok (.ireturn, 1) := by decide +kernel
theorem dX5_then_0 : decode cX5_then 0 = .ok (.iload_n 1, 1) := by decide +kernel
theorem dX5_then_1 : decode cX5_then 1 = .ok (.iconst 0, 1) := by decide +kernel
theorem dX5_then_2 : decode cX5_then 2 = .ok (.bipush 30, 2) := by decide +kernel
theorem dX5_then_4 : decode cX5_then 4 = .ok (.invokestatic 73, 3) := by decide +kernel
theorem dX5_then_7 : decode cX5_then 7 = .ok (.ifCond .ne 5, 3) := by decide +kernel
theorem dX5_then_10 : decode cX5_then 10 = .ok (.iconst (-1), 1) := by decide +kernel
theorem dX5_then_11 : decode cX5_then 11 = .ok (.ireturn, 1) := by decide +kernel
theorem dX5_then_12 : decode cX5_then 12 = .ok (.aload_n 0, 1) := by decide +kernel
theorem dX5_then_13 : decode cX5_then 13 = .ok (.invokevirtual 176, 3) := by decide +kernel
theorem dX5_then_16 : decode cX5_then 16 = .ok (.ifCond .ne 6, 3) := by decide +kernel
theorem dX5_then_19 : decode cX5_then 19 = .ok (.bipush (-4), 2) := by decide +kernel
theorem dX5_then_21 : decode cX5_then 21 = .ok (.ireturn, 1) := by decide +kernel
theorem dX5_then_22 : decode cX5_then 22 = .ok (.aload_n 0, 1) := by decide +kernel
theorem dX5_then_23 : decode cX5_then 23 = .ok (.iload_n 1, 1) := by decide +kernel
theorem dX5_then_24 : decode cX5_then 24 = .ok (.invokevirtual 204, 3) := by decide +kernel
theorem dX5_then_27 : decode cX5_then 27 = .ok (.istore_n 2, 1) := by decide +kernel
theorem dX5_then_28 : decode cX5_then 28 = .ok (.aload_n 0, 1) := by decide +kernel
theorem dX5_then_29 : decode cX5_then 29 = .ok (.iload_n 2, 1) := by decide +kernel
theorem dX5_then_30 : decode cX5_then 30 = .ok (.aload_n 0, 1) := by decide +kernel
theorem dX5_then_31 : decode cX5_then 31 = .ok (.iload_n 2, 1) := by decide +kernel
theorem dX5_then_32 : decode cX5_then 32 = .ok (.bipush 10, 2) := by decide +kernel
theorem dX5_then_34 : decode cX5_then 34 = .ok (.idiv, 1) := by decide +kernel
theorem dX5_then_35 : decode cX5_then 35 = .ok (.iload_n 2, 1) := by decide +kernel
theorem dX5_then_36 : decode cX5_then 36 = .ok (.bipush 10, 2) := by decide +kernel
theorem dX5_then_38 : decode cX5_then 38 = .ok (.irem, 1) := by decide +kernel
theorem dX5_then_39 : decode cX5_then 39 = .ok (.invokevirtual 140, 3) := by decide +kernel
theorem dX5_then_42 : decode cX5_then 42 = .ok (.invokevirtual 93, 3) := by decide +kernel
theorem dX5_then_45 : decode cX5_then 45 = .ok (.ireturn, 1) := by decide +kernel
theorem dX5_when_0 : decode cX5_when 0 = .ok (.aload_n 0, 1) := by decide +kernel
theorem dX5_when_1 : decode cX5_when 1 = .ok (.invokevirtual 176, 3) := by decide +kernel
theorem dX5_when_4 : decode cX5_when 4 = .ok (.ifCond .ne 6, 3) := by decide +kernel
theorem dX5_when_7 : decode cX5_when 7 = .ok (.bipush (-4), 2) := by decide +kernel
theorem dX5_when_9 : decode cX5_when 9 = .ok (.ireturn, 1) := by decide +kernel
theorem dX5_when_10 : decode cX5_when 10 = .ok (.aload_n 0, 1) := by decide +kernel
theorem dX5_when_11 : decode cX5_when 11 = .ok (.iload_n 1, 1) := by decide +kernel
theorem dX5_when_12 : decode cX5_when 12 = .ok (.iload_n 2, 1) := by decide +kernel
theorem dX5_when_13 : decode cX5_when 13 = .ok (.invokevirtual 192, 3) := by decide +kernel
theorem dX5_when_16 : decode cX5_when 16 = .ok (.ifCond .ne 5, 3) := by decide +kernel
theorem dX5_when_19 : decode cX5_when 19 = .ok (.iconst (-1), 1) := by decide +kernel
theorem dX5_when_20 : decode cX5_when 20 = .ok (.ireturn, 1) := by decide +kernel
theorem dX5_when_21 : decode cX5_when 21 = .ok (.aload_n 0, 1) := by decide +kernel
theorem dX5_when_22 : decode cX5_when 22 = .ok (.iconst 0, 1) := by decide +kernel
theorem dX5_when_23 : decode cX5_when 23 = .ok (.invokevirtual 204, 3) := by decide +kernel
theorem dX5_when_26 : decode cX5_when 26 = .ok (.istore_n 3, 1) := by decide +kernel
theorem dX5_when_27 : decode cX5_when 27 = .ok (.iconst 0, 1) := by decide +kernel
theorem dX5_when_28 : decode cX5_when 28 = .ok (.istore 4, 2) := by decide +kernel
theorem dX5_when_30 : decode cX5_when 30 = .ok (.iload 4, 2) := by decide +kernel
theorem dX5_when_32 : decode cX5_when 32 = .ok (.bipush 31, 2) := by decide +kernel
theorem dX5_when_34 : decode cX5_when 34 = .ok (.if_icmp .ge 35, 3) := by decide +kernel
theorem dX5_when_37 : decode cX5_when 37 = .ok (.iload_n 3, 1) := by decide +kernel
theorem dX5_when_38 : decode cX5_when 38 = .ok (.bipush 10, 2) := by decide +kernel
theorem dX5_when_40 : decode cX5_when 40 = .ok (.iload_n 1, 1) := by decide +kernel
theorem dX5_when_41 : decode cX5_when 41 = .ok (.imul, 1) := by decide +kernel
theorem dX5_when_42 : decode cX5_when 42 = .ok (.iload_n 2, 1) := by decide +kernel
theorem dX5_when_43 : decode cX5_when 43 = .ok (.iadd, 1) := by decide +kernel
theorem dX5_when_44 : decode cX5_when 44 = .ok (.if_icmp .ne 6, 3) := by decide +kernel
theorem dX5_when_47 : decode cX5_when 47 = .ok (.iload 4, 2) := by decide +kernel
theorem dX5_when_49 : decode cX5_when 49 = .ok (.ireturn, 1) := by decide +kernel
theorem dX5_when_50 : decode cX5_when 50 = .ok (.aload_n 0, 1) := by decide +kernel
theorem dX5_when_51 : decode cX5_when 51 = .ok (.iload_n 3, 1) := by decide +kernel
theorem dX5_when_52 : decode cX5_when 52 = .ok (.bipush 10, 2) := by decide +kernel
theorem dX5_when_54 : decode cX5_when 54 = .ok (.idiv, 1) := by decide +kernel
theorem dX5_when_55 : decode cX5_when 55 = .ok (.iload_n 3, 1) := by decide +kernel
theorem dX5_when_56 : decode cX5_when 56 = .ok (.bipush 10, 2) := by decide +kernel
theorem dX5_when_58 : decode cX5_when 58 = .ok (.irem, 1) := by decide +kernel
theorem dX5_when_59 : decode cX5_when 59 = .ok (.invokevirtual 183, 3) := by decide +kernel
theorem dX5_when_62 : decode cX5_when 62 = .ok (.istore_n 3, 1) := by decide +kernel
theorem dX5_when_63 : decode cX5_when 63 = .ok (.iinc 4 1, 3) := by decide +kernel
theorem dX5_when_66 : decode cX5_when 66 = .ok (.goto (-36), 3) := by decide +kernel
theorem dX5_when_69 : decode cX5_when 69 = .ok (.bipush (-9), 2) := by decide +kernel
theorem dX5_when_71 : decode cX5_when 71 = .ok (.ireturn, 1) := by decide +kernel
theorem dX5_round_0 : decode cX5_round 0 = .ok (.aload_n 0, 1) := by decide +kernel
theorem dX5_round_1 : decode cX5_round 1 = .ok (.invokevirtual 176, 3) := by decide +kernel
theorem dX5_round_4 : decode cX5_round 4 = .ok (.ifCond .ne 6, 3) := by decide +kernel
theorem dX5_round_7 : decode cX5_round 7 = .ok (.bipush (-4), 2) := by decide +kernel
theorem dX5_round_9 : decode cX5_round 9 = .ok (.ireturn, 1) := by decide +kernel
theorem dX5_round_10 : decode cX5_round 10 = .ok (.aload_n 0, 1) := by decide +kernel
theorem dX5_round_11 : decode cX5_round 11 = .ok (.getfield 44, 3) := by decide +kernel
theorem dX5_round_14 : decode cX5_round 14 = .ok (.iconst 0, 1) := by decide +kernel
theorem dX5_round_15 : decode cX5_round 15 = .ok (.aload_n 0, 1) := by decide +kernel
theorem dX5_round_16 : decode cX5_round 16 = .ok (.iconst 0, 1) := by decide +kernel
theorem dX5_round_17 : decode cX5_round 17 = .ok (.invokevirtual 204, 3) := by decide +kernel
theorem dX5_round_20 : decode cX5_round 20 = .ok (.iastore, 1) := by decide +kernel
theorem dX5_round_21 : decode cX5_round 21 = .ok (.iconst 1, 1) := by decide +kernel
theorem dX5_round_22 : decode cX5_round 22 = .ok (.istore_n 1, 1) := by decide +kernel
theorem dX5_round_23 : decode cX5_round 23 = .ok (.iload_n 1, 1) := by decide +kernel
theorem dX5_round_24 : decode cX5_round 24 = .ok (.bipush 62, 2) := by decide +kernel
theorem dX5_round_26 : decode cX5_round 26 = .ok (.if_icmp .ge 78, 3) := by decide +kernel
theorem dX5_round_29 : decode cX5_round 29 = .ok (.aload_n 0, 1) := by decide +kernel
theorem dX5_round_30 : decode cX5_round 30 = .ok (.getfield 44, 3) := by decide +kernel
theorem dX5_round_33 : decode cX5_round 33 = .ok (.iload_n 1, 1) := by decide +kernel
theorem dX5_round_34 : decode cX5_round 34 = .ok (.aload_n 0, 1) := by decide +kernel
theorem dX5_round_35 : decode cX5_round 35 = .ok (.aload_n 0, 1) := by decide +kernel
theorem dX5_round_36 : decode cX5_round 36 = .ok (.getfield 44, 3) := by decide +kernel
theorem dX5_round_39 : decode cX5_round 39 = .ok (.iload_n 1, 1) := by decide +kernel
theorem dX5_round_40 : decode cX5_round 40 = .ok (.iconst 1, 1) := by decide +kernel
theorem dX5_round_41 : decode cX5_round 41 = .ok (.isub, 1) := by decide +kernel
theorem dX5_round_42 : decode cX5_round 42 = .ok (.iaload, 1) := by decide +kernel
theorem dX5_round_43 : decode cX5_round 43 = .ok (.bipush 10, 2) := by decide +kernel
theorem dX5_round_45 : decode cX5_round 45 = .ok (.idiv, 1) := by decide +kernel
theorem dX5_round_46 : decode cX5_round 46 = .ok (.aload_n 0, 1) := by decide +kernel
theorem dX5_round_47 : decode cX5_round 47 = .ok (.getfield 44, 3) := by decide +kernel
theorem dX5_round_50 : decode cX5_round 50 = .ok (.iload_n 1, 1) := by decide +kernel
theorem dX5_round_51 : decode cX5_round 51 = .ok (.iconst 1, 1) := by decide +kernel
theorem dX5_round_52 : decode cX5_round 52 = .ok (.isub, 1) := by decide +kernel
theorem dX5_round_53 : decode cX5_round 53 = .ok (.iaload, 1) := by decide +kernel
theorem dX5_round_54 : decode cX5_round 54 = .ok (.bipush 10, 2) := by decide +kernel
theorem dX5_round_56 : decode cX5_round 56 = .ok (.irem, 1) := by decide +kernel
theorem dX5_round_57 : decode cX5_round 57 = .ok (.invokevirtual 183, 3) := by decide +kernel
theorem dX5_round_60 : decode cX5_round 60 = .ok (.iastore, 1) := by decide +kernel
theorem dX5_round_61 : decode cX5_round 61 = .ok (.iconst 0, 1) := by decide +kernel
theorem dX5_round_62 : decode cX5_round 62 = .ok (.istore_n 2, 1) := by decide +kernel
theorem dX5_round_63 : decode cX5_round 63 = .ok (.iload_n 2, 1) := by decide +kernel
theorem dX5_round_64 : decode cX5_round 64 = .ok (.iload_n 1, 1) := by decide +kernel
theorem dX5_round_65 : decode cX5_round 65 = .ok (.if_icmp .ge 33, 3) := by decide +kernel
theorem dX5_round_68 : decode cX5_round 68 = .ok (.aload_n 0, 1) := by decide +kernel
theorem dX5_round_69 : decode cX5_round 69 = .ok (.getfield 44, 3) := by decide +kernel
theorem dX5_round_72 : decode cX5_round 72 = .ok (.iload_n 2, 1) := by decide +kernel
theorem dX5_round_73 : decode cX5_round 73 = .ok (.iaload, 1) := by decide +kernel
theorem dX5_round_74 : decode cX5_round 74 = .ok (.aload_n 0, 1) := by decide +kernel
theorem dX5_round_75 : decode cX5_round 75 = .ok (.getfield 44, 3) := by decide +kernel
theorem dX5_round_78 : decode cX5_round 78 = .ok (.iload_n 1, 1) := by decide +kernel
theorem dX5_round_79 : decode cX5_round 79 = .ok (.iaload, 1) := by decide +kernel
theorem dX5_round_80 : decode cX5_round 80 = .ok (.if_icmp .ne 12, 3) := by decide +kernel
theorem dX5_round_83 : decode cX5_round 83 = .ok (.aload_n 0, 1) := by decide +kernel
theorem dX5_round_84 : decode cX5_round 84 = .ok (.iload_n 1, 1) := by decide +kernel
theorem dX5_round_85 : decode cX5_round 85 = .ok (.iload_n 1, 1) := by decide +kernel
theorem dX5_round_86 : decode cX5_round 86 = .ok (.iload_n 2, 1) := by decide +kernel
theorem dX5_round_87 : decode cX5_round 87 = .ok (.isub, 1) := by decide +kernel
theorem dX5_round_88 : decode cX5_round 88 = .ok (.invokevirtual 93, 3) := by decide +kernel
theorem dX5_round_91 : decode cX5_round 91 = .ok (.ireturn, 1) := by decide +kernel
theorem dX5_round_92 : decode cX5_round 92 = .ok (.iinc 2 1, 3) := by decide +kernel
theorem dX5_round_95 : decode cX5_round 95 = .ok (.goto (-32), 3) := by decide +kernel
theorem dX5_round_98 : decode cX5_round 98 = .ok (.iinc 1 1, 3) := by decide +kernel
theorem dX5_round_101 : decode cX5_round 101 = .ok (.goto (-78), 3) := by decide +kernel
theorem dX5_round_104 : decode cX5_round 104 = .ok (.bipush (-9), 2) := by decide +kernel
theorem dX5_round_106 : decode cX5_round 106 = .ok (.ireturn, 1) := by decide +kernel
theorem dX5_moves_0 : decode cX5_moves 0 = .ok (.aload_n 0, 1) := by decide +kernel
theorem dX5_moves_1 : decode cX5_moves 1 = .ok (.getfield 47, 3) := by decide +kernel
theorem dX5_moves_4 : decode cX5_moves 4 = .ok (.iload_n 1, 1) := by decide +kernel
theorem dX5_moves_5 : decode cX5_moves 5 = .ok (.iaload, 1) := by decide +kernel
theorem dX5_moves_6 : decode cX5_moves 6 = .ok (.ifCond .ne 7, 3) := by decide +kernel
theorem dX5_moves_9 : decode cX5_moves 9 = .ok (.iconst 1, 1) := by decide +kernel
theorem dX5_moves_10 : decode cX5_moves 10 = .ok (.goto 18, 3) := by decide +kernel
theorem dX5_moves_13 : decode cX5_moves 13 = .ok (.aload_n 0, 1) := by decide +kernel
theorem dX5_moves_14 : decode cX5_moves 14 = .ok (.getfield 47, 3) := by decide +kernel
theorem dX5_moves_17 : decode cX5_moves 17 = .ok (.iload_n 1, 1) := by decide +kernel
theorem dX5_moves_18 : decode cX5_moves 18 = .ok (.iaload, 1) := by decide +kernel
theorem dX5_moves_19 : decode cX5_moves 19 = .ok (.iconst 1, 1) := by decide +kernel
theorem dX5_moves_20 : decode cX5_moves 20 = .ok (.if_icmp .ne 7, 3) := by decide +kernel
theorem dX5_moves_23 : decode cX5_moves 23 = .ok (.iconst (-1), 1) := by decide +kernel
theorem dX5_moves_24 : decode cX5_moves 24 = .ok (.goto 4, 3) := by decide +kernel
theorem dX5_moves_27 : decode cX5_moves 27 = .ok (.iconst 0, 1) := by decide +kernel
theorem dX5_moves_28 : decode cX5_moves 28 = .ok (.istore_n 2, 1) := by decide +kernel
theorem dX5_moves_29 : decode cX5_moves 29 = .ok (.aload_n 0, 1) := by decide +kernel
theorem dX5_moves_30 : decode cX5_moves 30 = .ok (.getfield 53, 3) := by decide +kernel
theorem dX5_moves_33 : decode cX5_moves 33 = .ok (.iload_n 1, 1) := by decide +kernel
theorem dX5_moves_34 : decode cX5_moves 34 = .ok (.iconst 1, 1) := by decide +kernel
theorem dX5_moves_35 : decode cX5_moves 35 = .ok (.iadd, 1) := by decide +kernel
theorem dX5_moves_36 : decode cX5_moves 36 = .ok (.aload_n 0, 1) := by decide +kernel
theorem dX5_moves_37 : decode cX5_moves 37 = .ok (.getfield 53, 3) := by decide +kernel
theorem dX5_moves_40 : decode cX5_moves 40 = .ok (.iload_n 1, 1) := by decide +kernel
theorem dX5_moves_41 : decode cX5_moves 41 = .ok (.iaload, 1) := by decide +kernel
theorem dX5_moves_42 : decode cX5_moves 42 = .ok (.iload_n 1, 1) := by decide +kernel
theorem dX5_moves_43 : decode cX5_moves 43 = .ok (.iconst 2, 1) := by decide +kernel
theorem dX5_moves_44 : decode cX5_moves 44 = .ok (.irem, 1) := by decide +kernel
theorem dX5_moves_45 : decode cX5_moves 45 = .ok (.ifCond .ne 7, 3) := by decide +kernel
theorem dX5_moves_48 : decode cX5_moves 48 = .ok (.iload_n 2, 1) := by decide +kernel
theorem dX5_moves_49 : decode cX5_moves 49 = .ok (.goto 4, 3) := by decide +kernel
theorem dX5_moves_52 : decode cX5_moves 52 = .ok (.iconst 0, 1) := by decide +kernel
theorem dX5_moves_53 : decode cX5_moves 53 = .ok (.isub, 1) := by decide +kernel
theorem dX5_moves_54 : decode cX5_moves 54 = .ok (.iastore, 1) := by decide +kernel
theorem dX5_moves_55 : decode cX5_moves 55 = .ok (.aload_n 0, 1) := by decide +kernel
theorem dX5_moves_56 : decode cX5_moves 56 = .ok (.getfield 56, 3) := by decide +kernel
theorem dX5_moves_59 : decode cX5_moves 59 = .ok (.iload_n 1, 1) := by decide +kernel
theorem dX5_moves_60 : decode cX5_moves 60 = .ok (.iconst 1, 1) := by decide +kernel
theorem dX5_moves_61 : decode cX5_moves 61 = .ok (.iadd, 1) := by decide +kernel
theorem dX5_moves_62 : decode cX5_moves 62 = .ok (.aload_n 0, 1) := by decide +kernel
theorem dX5_moves_63 : decode cX5_moves 63 = .ok (.getfield 56, 3) := by decide +kernel
theorem dX5_moves_66 : decode cX5_moves 66 = .ok (.iload_n 1, 1) := by decide +kernel
theorem dX5_moves_67 : decode cX5_moves 67 = .ok (.iaload, 1) := by decide +kernel
theorem dX5_moves_68 : decode cX5_moves 68 = .ok (.iload_n 1, 1) := by decide +kernel
theorem dX5_moves_69 : decode cX5_moves 69 = .ok (.iconst 2, 1) := by decide +kernel
theorem dX5_moves_70 : decode cX5_moves 70 = .ok (.irem, 1) := by decide +kernel
theorem dX5_moves_71 : decode cX5_moves 71 = .ok (.iconst 1, 1) := by decide +kernel
theorem dX5_moves_72 : decode cX5_moves 72 = .ok (.if_icmp .ne 7, 3) := by decide +kernel
theorem dX5_moves_75 : decode cX5_moves 75 = .ok (.iload_n 2, 1) := by decide +kernel
theorem dX5_moves_76 : decode cX5_moves 76 = .ok (.goto 4, 3) := by decide +kernel
theorem dX5_moves_79 : decode cX5_moves 79 = .ok (.iconst 0, 1) := by decide +kernel
theorem dX5_moves_80 : decode cX5_moves 80 = .ok (.iadd, 1) := by decide +kernel
theorem dX5_moves_81 : decode cX5_moves 81 = .ok (.iastore, 1) := by decide +kernel
theorem dX5_moves_82 : decode cX5_moves 82 = .ok (.aload_n 0, 1) := by decide +kernel
theorem dX5_moves_83 : decode cX5_moves 83 = .ok (.aload_n 0, 1) := by decide +kernel
theorem dX5_moves_84 : decode cX5_moves 84 = .ok (.getfield 53, 3) := by decide +kernel
theorem dX5_moves_87 : decode cX5_moves 87 = .ok (.iload_n 1, 1) := by decide +kernel
theorem dX5_moves_88 : decode cX5_moves 88 = .ok (.iconst 1, 1) := by decide +kernel
theorem dX5_moves_89 : decode cX5_moves 89 = .ok (.iadd, 1) := by decide +kernel
theorem dX5_moves_90 : decode cX5_moves 90 = .ok (.iaload, 1) := by decide +kernel
theorem dX5_moves_91 : decode cX5_moves 91 = .ok (.aload_n 0, 1) := by decide +kernel
theorem dX5_moves_92 : decode cX5_moves 92 = .ok (.getfield 56, 3) := by decide +kernel
theorem dX5_moves_95 : decode cX5_moves 95 = .ok (.iload_n 1, 1) := by decide +kernel
theorem dX5_moves_96 : decode cX5_moves 96 = .ok (.iconst 1, 1) := by decide +kernel
theorem dX5_moves_97 : decode cX5_moves 97 = .ok (.iadd, 1) := by decide +kernel
theorem dX5_moves_98 : decode cX5_moves 98 = .ok (.iaload, 1) := by decide +kernel
theorem dX5_moves_99 : decode cX5_moves 99 = .ok (.invokevirtual 192, 3) := by decide +kernel
theorem dX5_moves_102 : decode cX5_moves 102 = .ok (.ireturn, 1) := by decide +kernel
theorem dX5_comes_0 : decode cX5_comes 0 = .ok (.aload_n 0, 1) := by decide +kernel
theorem dX5_comes_1 : decode cX5_comes 1 = .ok (.getfield 50, 3) := by decide +kernel
theorem dX5_comes_4 : decode cX5_comes 4 = .ok (.iload_n 1, 1) := by decide +kernel
theorem dX5_comes_5 : decode cX5_comes 5 = .ok (.iaload, 1) := by decide +kernel
theorem dX5_comes_6 : decode cX5_comes 6 = .ok (.bipush (-9), 2) := by decide +kernel
theorem dX5_comes_8 : decode cX5_comes 8 = .ok (.if_icmp .eq 32, 3) := by decide +kernel
theorem dX5_comes_11 : decode cX5_comes 11 = .ok (.iload_n 1, 1) := by decide +kernel
theorem dX5_comes_12 : decode cX5_comes 12 = .ok (.iconst 2, 1) := by decide +kernel
theorem dX5_comes_13 : decode cX5_comes 13 = .ok (.irem, 1) := by decide +kernel
theorem dX5_comes_14 : decode cX5_comes 14 = .ok (.ifCond .ne 16, 3) := by decide +kernel
theorem dX5_comes_17 : decode cX5_comes 17 = .ok (.iload_n 2, 1) := by decide +kernel
theorem dX5_comes_18 : decode cX5_comes 18 = .ok (.aload_n 0, 1) := by decide +kernel
theorem dX5_comes_19 : decode cX5_comes 19 = .ok (.getfield 50, 3) := by decide +kernel
theorem dX5_comes_22 : decode cX5_comes 22 = .ok (.iload_n 1, 1) := by decide +kernel
theorem dX5_comes_23 : decode cX5_comes 23 = .ok (.iaload, 1) := by decide +kernel
theorem dX5_comes_24 : decode cX5_comes 24 = .ok (.if_icmp .ge 20, 3) := by decide +kernel
theorem dX5_comes_27 : decode cX5_comes 27 = .ok (.goto 13, 3) := by decide +kernel
theorem dX5_comes_30 : decode cX5_comes 30 = .ok (.iload_n 2, 1) := by decide +kernel
theorem dX5_comes_31 : decode cX5_comes 31 = .ok (.aload_n 0, 1) := by decide +kernel
theorem dX5_comes_32 : decode cX5_comes 32 = .ok (.getfield 50, 3) := by decide +kernel
theorem dX5_comes_35 : decode cX5_comes 35 = .ok (.iload_n 1, 1) := by decide +kernel
theorem dX5_comes_36 : decode cX5_comes 36 = .ok (.iaload, 1) := by decide +kernel
theorem dX5_comes_37 : decode cX5_comes 37 = .ok (.if_icmp .le 7, 3) := by decide +kernel
theorem dX5_comes_40 : decode cX5_comes 40 = .ok (.iconst 1, 1) := by decide +kernel
theorem dX5_comes_41 : decode cX5_comes 41 = .ok (.goto 4, 3) := by decide +kernel
theorem dX5_comes_44 : decode cX5_comes 44 = .ok (.iconst 0, 1) := by decide +kernel
theorem dX5_comes_45 : decode cX5_comes 45 = .ok (.istore_n 3, 1) := by decide +kernel
theorem dX5_comes_46 : decode cX5_comes 46 = .ok (.aload_n 0, 1) := by decide +kernel
theorem dX5_comes_47 : decode cX5_comes 47 = .ok (.getfield 50, 3) := by decide +kernel
theorem dX5_comes_50 : decode cX5_comes 50 = .ok (.iload_n 1, 1) := by decide +kernel
theorem dX5_comes_51 : decode cX5_comes 51 = .ok (.iload_n 3, 1) := by decide +kernel
theorem dX5_comes_52 : decode cX5_comes 52 = .ok (.ifCond .eq 7, 3) := by decide +kernel
theorem dX5_comes_55 : decode cX5_comes 55 = .ok (.iload_n 2, 1) := by decide +kernel
theorem dX5_comes_56 : decode cX5_comes 56 = .ok (.goto 9, 3) := by decide +kernel
theorem dX5_comes_59 : decode cX5_comes 59 = .ok (.aload_n 0, 1) := by decide +kernel
theorem dX5_comes_60 : decode cX5_comes 60 = .ok (.getfield 50, 3) := by decide +kernel
theorem dX5_comes_63 : decode cX5_comes 63 = .ok (.iload_n 1, 1) := by decide +kernel
theorem dX5_comes_64 : decode cX5_comes 64 = .ok (.iaload, 1) := by decide +kernel
theorem dX5_comes_65 : decode cX5_comes 65 = .ok (.iastore, 1) := by decide +kernel
theorem dX5_comes_66 : decode cX5_comes 66 = .ok (.return_, 1) := by decide +kernel
theorem dX5_duel_0 : decode cX5_duel 0 = .ok (.iload_n 1, 1) := by decide +kernel
theorem dX5_duel_1 : decode cX5_duel 1 = .ok (.iconst 0, 1) := by decide +kernel
theorem dX5_duel_2 : decode cX5_duel 2 = .ok (.bipush 6, 2) := by decide +kernel
theorem dX5_duel_4 : decode cX5_duel 4 = .ok (.invokestatic 73, 3) := by decide +kernel
theorem dX5_duel_7 : decode cX5_duel 7 = .ok (.ifCond .ne 5, 3) := by decide +kernel
theorem dX5_duel_10 : decode cX5_duel 10 = .ok (.iconst (-1), 1) := by decide +kernel
theorem dX5_duel_11 : decode cX5_duel 11 = .ok (.ireturn, 1) := by decide +kernel
theorem dX5_duel_12 : decode cX5_duel 12 = .ok (.aload_n 0, 1) := by decide +kernel
theorem dX5_duel_13 : decode cX5_duel 13 = .ok (.invokevirtual 176, 3) := by decide +kernel
theorem dX5_duel_16 : decode cX5_duel 16 = .ok (.ifCond .ne 6, 3) := by decide +kernel
theorem dX5_duel_19 : decode cX5_duel 19 = .ok (.bipush (-4), 2) := by decide +kernel
theorem dX5_duel_21 : decode cX5_duel 21 = .ok (.ireturn, 1) := by decide +kernel
theorem dX5_duel_22 : decode cX5_duel 22 = .ok (.aload_n 0, 1) := by decide +kernel
theorem dX5_duel_23 : decode cX5_duel 23 = .ok (.getfield 53, 3) := by decide +kernel
theorem dX5_duel_26 : decode cX5_duel 26 = .ok (.iconst 0, 1) := by decide +kernel
theorem dX5_duel_27 : decode cX5_duel 27 = .ok (.aload_n 0, 1) := by decide +kernel
theorem dX5_duel_28 : decode cX5_duel 28 = .ok (.getfield 25, 3) := by decide +kernel
theorem dX5_duel_31 : decode cX5_duel 31 = .ok (.iconst 1, 1) := by decide +kernel
theorem dX5_duel_32 : decode cX5_duel 32 = .ok (.iaload, 1) := by decide +kernel
theorem dX5_duel_33 : decode cX5_duel 33 = .ok (.iastore, 1) := by decide +kernel
theorem dX5_duel_34 : decode cX5_duel 34 = .ok (.aload_n 0, 1) := by decide +kernel
theorem dX5_duel_35 : decode cX5_duel 35 = .ok (.getfield 56, 3) := by decide +kernel
theorem dX5_duel_38 : decode cX5_duel 38 = .ok (.iconst 0, 1) := by decide +kernel
theorem dX5_duel_39 : decode cX5_duel 39 = .ok (.aload_n 0, 1) := by decide +kernel
theorem dX5_duel_40 : decode cX5_duel 40 = .ok (.getfield 25, 3) := by decide +kernel
theorem dX5_duel_43 : decode cX5_duel 43 = .ok (.iconst 2, 1) := by decide +kernel
theorem dX5_duel_44 : decode cX5_duel 44 = .ok (.iaload, 1) := by decide +kernel
theorem dX5_duel_45 : decode cX5_duel 45 = .ok (.iastore, 1) := by decide +kernel
theorem dX5_duel_46 : decode cX5_duel 46 = .ok (.iload_n 1, 1) := by decide +kernel
theorem dX5_duel_47 : decode cX5_duel 47 = .ok (.ifCond .ne 12, 3) := by decide +kernel
theorem dX5_duel_50 : decode cX5_duel 50 = .ok (.aload_n 0, 1) := by decide +kernel
theorem dX5_duel_51 : decode cX5_duel 51 = .ok (.aload_n 0, 1) := by decide +kernel
theorem dX5_duel_52 : decode cX5_duel 52 = .ok (.invokevirtual 165, 3) := by decide +kernel
theorem dX5_duel_55 : decode cX5_duel 55 = .ok (.invokevirtual 169, 3) := by decide +kernel
theorem dX5_duel_58 : decode cX5_duel 58 = .ok (.ireturn, 1) := by decide +kernel
theorem dX5_duel_59 : decode cX5_duel 59 = .ok (.iconst 0, 1) := by decide +kernel
theorem dX5_duel_60 : decode cX5_duel 60 = .ok (.istore_n 2, 1) := by decide +kernel
theorem dX5_duel_61 : decode cX5_duel 61 = .ok (.aload_n 0, 1) := by decide +kernel
theorem dX5_duel_62 : decode cX5_duel 62 = .ok (.getfield 47, 3) := by decide +kernel
theorem dX5_duel_65 : decode cX5_duel 65 = .ok (.iconst 0, 1) := by decide +kernel
theorem dX5_duel_66 : decode cX5_duel 66 = .ok (.iconst 0, 1) := by decide +kernel
theorem dX5_duel_67 : decode cX5_duel 67 = .ok (.iastore, 1) := by decide +kernel
theorem dX5_duel_68 : decode cX5_duel 68 = .ok (.aload_n 0, 1) := by decide +kernel
theorem dX5_duel_69 : decode cX5_duel 69 = .ok (.getfield 50, 3) := by decide +kernel
theorem dX5_duel_72 : decode cX5_duel 72 = .ok (.iconst 0, 1) := by decide +kernel
theorem dX5_duel_73 : decode cX5_duel 73 = .ok (.bipush (-9), 2) := by decide +kernel
theorem dX5_duel_75 : decode cX5_duel 75 = .ok (.iastore, 1) := by decide +kernel
theorem dX5_duel_76 : decode cX5_duel 76 = .ok (.iload_n 2, 1) := by decide +kernel
theorem dX5_duel_77 : decode cX5_duel 77 = .ok (.ifCond .lt 135, 3) := by decide +kernel
theorem dX5_duel_80 : decode cX5_duel 80 = .ok (.aload_n 0, 1) := by decide +kernel
theorem dX5_duel_81 : decode cX5_duel 81 = .ok (.getfield 47, 3) := by decide +kernel
theorem dX5_duel_84 : decode cX5_duel 84 = .ok (.iload_n 2, 1) := by decide +kernel
theorem dX5_duel_85 : decode cX5_duel 85 = .ok (.iaload, 1) := by decide +kernel
theorem dX5_duel_86 : decode cX5_duel 86 = .ok (.iconst 3, 1) := by decide +kernel
theorem dX5_duel_87 : decode cX5_duel 87 = .ok (.if_icmp .ne 38, 3) := by decide +kernel
theorem dX5_duel_90 : decode cX5_duel 90 = .ok (.iload_n 2, 1) := by decide +kernel
theorem dX5_duel_91 : decode cX5_duel 91 = .ok (.ifCond .le 28, 3) := by decide +kernel
theorem dX5_duel_94 : decode cX5_duel 94 = .ok (.aload_n 0, 1) := by decide +kernel
theorem dX5_duel_95 : decode cX5_duel 95 = .ok (.iload_n 2, 1) := by decide +kernel
theorem dX5_duel_96 : decode cX5_duel 96 = .ok (.iconst 1, 1) := by decide +kernel
theorem dX5_duel_97 : decode cX5_duel 97 = .ok (.isub, 1) := by decide +kernel
theorem dX5_duel_98 : decode cX5_duel 98 = .ok (.aload_n 0, 1) := by decide +kernel
theorem dX5_duel_99 : decode cX5_duel 99 = .ok (.getfield 50, 3) := by decide +kernel
theorem dX5_duel_102 : decode cX5_duel 102 = .ok (.iload_n 2, 1) := by decide +kernel
theorem dX5_duel_103 : decode cX5_duel 103 = .ok (.iaload, 1) := by decide +kernel
theorem dX5_duel_104 : decode cX5_duel 104 = .ok (.invokevirtual 207, 3) := by decide +kernel
theorem dX5_duel_107 : decode cX5_duel 107 = .ok (.aload_n 0, 1) := by decide +kernel
theorem dX5_duel_108 : decode cX5_duel 108 = .ok (.getfield 47, 3) := by decide +kernel
theorem dX5_duel_111 : decode cX5_duel 111 = .ok (.iload_n 2, 1) := by decide +kernel
theorem dX5_duel_112 : decode cX5_duel 112 = .ok (.iconst 1, 1) := by decide +kernel
theorem dX5_duel_113 : decode cX5_duel 113 = .ok (.isub, 1) := by decide +kernel
theorem dX5_duel_114 : decode cX5_duel 114 = .ok (.dup2, 1) := by decide +kernel
theorem dX5_duel_115 : decode cX5_duel 115 = .ok (.iaload, 1) := by decide +kernel
theorem dX5_duel_116 : decode cX5_duel 116 = .ok (.iconst 1, 1) := by decide +kernel
theorem dX5_duel_117 : decode cX5_duel 117 = .ok (.iadd, 1) := by decide +kernel
theorem dX5_duel_118 : decode cX5_duel 118 = .ok (.iastore, 1) := by decide +kernel
theorem dX5_duel_119 : decode cX5_duel 119 = .ok (.iinc 2 (-1), 3) := by decide +kernel
theorem dX5_duel_122 : decode cX5_duel 122 = .ok (.goto (-46), 3) := by decide +kernel
theorem dX5_duel_125 : decode cX5_duel 125 = .ok (.aload_n 0, 1) := by decide +kernel
theorem dX5_duel_126 : decode cX5_duel 126 = .ok (.iload_n 2, 1) := by decide +kernel
theorem dX5_duel_127 : decode cX5_duel 127 = .ok (.invokevirtual 210, 3) := by decide +kernel
theorem dX5_duel_130 : decode cX5_duel 130 = .ok (.ifCond .ne 16, 3) := by decide +kernel
theorem dX5_duel_133 : decode cX5_duel 133 = .ok (.aload_n 0, 1) := by decide +kernel
theorem dX5_duel_134 : decode cX5_duel 134 = .ok (.getfield 47, 3) := by decide +kernel
theorem dX5_duel_137 : decode cX5_duel 137 = .ok (.iload_n 2, 1) := by decide +kernel
theorem dX5_duel_138 : decode cX5_duel 138 = .ok (.dup2, 1) := by decide +kernel
theorem dX5_duel_139 : decode cX5_duel 139 = .ok (.iaload, 1) := by decide +kernel
theorem dX5_duel_140 : decode cX5_duel 140 = .ok (.iconst 1, 1) := by decide +kernel
theorem dX5_duel_141 : decode cX5_duel 141 = .ok (.iadd, 1) := by decide +kernel
theorem dX5_duel_142 : decode cX5_duel 142 = .ok (.iastore, 1) := by decide +kernel
theorem dX5_duel_143 : decode cX5_duel 143 = .ok (.goto (-67), 3) := by decide +kernel
theorem dX5_duel_146 : decode cX5_duel 146 = .ok (.iload_n 2, 1) := by decide +kernel
theorem dX5_duel_147 : decode cX5_duel 147 = .ok (.iload_n 1, 1) := by decide +kernel
theorem dX5_duel_148 : decode cX5_duel 148 = .ok (.iconst 1, 1) := by decide +kernel
theorem dX5_duel_149 : decode cX5_duel 149 = .ok (.isub, 1) := by decide +kernel
theorem dX5_duel_150 : decode cX5_duel 150 = .ok (.if_icmp .ne 41, 3) := by decide +kernel
theorem dX5_duel_153 : decode cX5_duel 153 = .ok (.aload_n 0, 1) := by decide +kernel
theorem dX5_duel_154 : decode cX5_duel 154 = .ok (.iload_n 2, 1) := by decide +kernel
theorem dX5_duel_155 : decode cX5_duel 155 = .ok (.aload_n 0, 1) := by decide +kernel
theorem dX5_duel_156 : decode cX5_duel 156 = .ok (.aload_n 0, 1) := by decide +kernel
theorem dX5_duel_157 : decode cX5_duel 157 = .ok (.aload_n 0, 1) := by decide +kernel
theorem dX5_duel_158 : decode cX5_duel 158 = .ok (.getfield 53, 3) := by decide +kernel
theorem dX5_duel_161 : decode cX5_duel 161 = .ok (.iload_n 1, 1) := by decide +kernel
theorem dX5_duel_162 : decode cX5_duel 162 = .ok (.iaload, 1) := by decide +kernel
theorem dX5_duel_163 : decode cX5_duel 163 = .ok (.aload_n 0, 1) := by decide +kernel
theorem dX5_duel_164 : decode cX5_duel 164 = .ok (.getfield 56, 3) := by decide +kernel
theorem dX5_duel_167 : decode cX5_duel 167 = .ok (.iload_n 1, 1) := by decide +kernel
theorem dX5_duel_168 : decode cX5_duel 168 = .ok (.iaload, 1) := by decide +kernel
theorem dX5_duel_169 : decode cX5_duel 169 = .ok (.invokevirtual 140, 3) := by decide +kernel
theorem dX5_duel_172 : decode cX5_duel 172 = .ok (.invokevirtual 169, 3) := by decide +kernel
theorem dX5_duel_175 : decode cX5_duel 175 = .ok (.invokevirtual 207, 3) := by decide +kernel
theorem dX5_duel_178 : decode cX5_duel 178 = .ok (.aload_n 0, 1) := by decide +kernel
theorem dX5_duel_179 : decode cX5_duel 179 = .ok (.getfield 47, 3) := by decide +kernel
theorem dX5_duel_182 : decode cX5_duel 182 = .ok (.iload_n 2, 1) := by decide +kernel
theorem dX5_duel_183 : decode cX5_duel 183 = .ok (.dup2, 1) := by decide +kernel
theorem dX5_duel_184 : decode cX5_duel 184 = .ok (.iaload, 1) := by decide +kernel
theorem dX5_duel_185 : decode cX5_duel 185 = .ok (.iconst 1, 1) := by decide +kernel
theorem dX5_duel_186 : decode cX5_duel 186 = .ok (.iadd, 1) := by decide +kernel
theorem dX5_duel_187 : decode cX5_duel 187 = .ok (.iastore, 1) := by decide +kernel
theorem dX5_duel_188 : decode cX5_duel 188 = .ok (.goto (-112), 3) := by decide +kernel
theorem dX5_duel_191 : decode cX5_duel 191 = .ok (.iinc 2 1, 3) := by decide +kernel
theorem dX5_duel_194 : decode cX5_duel 194 = .ok (.aload_n 0, 1) := by decide +kernel
theorem dX5_duel_195 : decode cX5_duel 195 = .ok (.getfield 47, 3) := by decide +kernel
theorem dX5_duel_198 : decode cX5_duel 198 = .ok (.iload_n 2, 1) := by decide +kernel
theorem dX5_duel_199 : decode cX5_duel 199 = .ok (.iconst 0, 1) := by decide +kernel
theorem dX5_duel_200 : decode cX5_duel 200 = .ok (.iastore, 1) := by decide +kernel
theorem dX5_duel_201 : decode cX5_duel 201 = .ok (.aload_n 0, 1) := by decide +kernel
theorem dX5_duel_202 : decode cX5_duel 202 = .ok (.getfield 50, 3) := by decide +kernel
theorem dX5_duel_205 : decode cX5_duel 205 = .ok (.iload_n 2, 1) := by decide +kernel
theorem dX5_duel_206 : decode cX5_duel 206 = .ok (.bipush (-9), 2) := by decide +kernel
theorem dX5_duel_208 : decode cX5_duel 208 = .ok (.iastore, 1) := by decide +kernel
theorem dX5_duel_209 : decode cX5_duel 209 = .ok (.goto (-133), 3) := by decide +kernel
theorem dX5_duel_212 : decode cX5_duel 212 = .ok (.aload_n 0, 1) := by decide +kernel
theorem dX5_duel_213 : decode cX5_duel 213 = .ok (.getfield 50, 3) := by decide +kernel
theorem dX5_duel_216 : decode cX5_duel 216 = .ok (.iconst 0, 1) := by decide +kernel
theorem dX5_duel_217 : decode cX5_duel 217 = .ok (.iaload, 1) := by decide +kernel
theorem dX5_duel_218 : decode cX5_duel 218 = .ok (.ireturn, 1) := by decide +kernel
theorem dX5_peace_0 : decode cX5_peace 0 = .ok (.iload_n 1, 1) := by decide +kernel
theorem dX5_peace_1 : decode cX5_peace 1 = .ok (.iconst 0, 1) := by decide +kernel
theorem dX5_peace_2 : decode cX5_peace 2 = .ok (.bipush 99, 2) := by decide +kernel
theorem dX5_peace_4 : decode cX5_peace 4 = .ok (.invokestatic 73, 3) := by decide +kernel
theorem dX5_peace_7 : decode cX5_peace 7 = .ok (.ifCond .eq 10, 3) := by decide +kernel
theorem dX5_peace_10 : decode cX5_peace 10 = .ok (.iload_n 2, 1) := by decide +kernel
theorem dX5_peace_11 : decode cX5_peace 11 = .ok (.invokestatic 77, 3) := by decide +kernel
theorem dX5_peace_14 : decode cX5_peace 14 = .ok (.ifCond .ne 5, 3) := by decide +kernel
theorem dX5_peace_17 : decode cX5_peace 17 = .ok (.iconst (-1), 1) := by decide +kernel
theorem dX5_peace_18 : decode cX5_peace 18 = .ok (.ireturn, 1) := by decide +kernel
theorem dX5_peace_19 : decode cX5_peace 19 = .ok (.aload_n 0, 1) := by decide +kernel
theorem dX5_peace_20 : decode cX5_peace 20 = .ok (.invokevirtual 165, 3) := by decide +kernel
theorem dX5_peace_23 : decode cX5_peace 23 = .ok (.istore_n 3, 1) := by decide +kernel
theorem dX5_peace_24 : decode cX5_peace 24 = .ok (.aload_n 0, 1) := by decide +kernel
theorem dX5_peace_25 : decode cX5_peace 25 = .ok (.iload_n 3, 1) := by decide +kernel
theorem dX5_peace_26 : decode cX5_peace 26 = .ok (.invokevirtual 169, 3) := by decide +kernel
theorem dX5_peace_29 : decode cX5_peace 29 = .ok (.istore 4, 2) := by decide +kernel
theorem dX5_peace_31 : decode cX5_peace 31 = .ok (.aload_n 0, 1) := by decide +kernel
theorem dX5_peace_32 : decode cX5_peace 32 = .ok (.invokevirtual 176, 3) := by decide +kernel
theorem dX5_peace_35 : decode cX5_peace 35 = .ok (.ifCond .eq 8, 3) := by decide +kernel
theorem dX5_peace_38 : decode cX5_peace 38 = .ok (.iload 4, 2) := by decide +kernel
theorem dX5_peace_40 : decode cX5_peace 40 = .ok (.ifCond .ne 6, 3) := by decide +kernel
theorem dX5_peace_43 : decode cX5_peace 43 = .ok (.bipush (-4), 2) := by decide +kernel
theorem dX5_peace_45 : decode cX5_peace 45 = .ok (.ireturn, 1) := by decide +kernel
theorem dX5_peace_46 : decode cX5_peace 46 = .ok (.iload_n 1, 1) := by decide +kernel
theorem dX5_peace_47 : decode cX5_peace 47 = .ok (.istore 5, 2) := by decide +kernel
theorem dX5_peace_49 : decode cX5_peace 49 = .ok (.iconst 0, 1) := by decide +kernel
theorem dX5_peace_50 : decode cX5_peace 50 = .ok (.istore 6, 2) := by decide +kernel
theorem dX5_peace_52 : decode cX5_peace 52 = .ok (.iload 6, 2) := by decide +kernel
theorem dX5_peace_54 : decode cX5_peace 54 = .ok (.bipush 6, 2) := by decide +kernel
theorem dX5_peace_56 : decode cX5_peace 56 = .ok (.if_icmp .ge 52, 3) := by decide +kernel
theorem dX5_peace_59 : decode cX5_peace 59 = .ok (.aload_n 0, 1) := by decide +kernel
theorem dX5_peace_60 : decode cX5_peace 60 = .ok (.getfield 41, 3) := by decide +kernel
theorem dX5_peace_63 : decode cX5_peace 63 = .ok (.iload 6, 2) := by decide +kernel
theorem dX5_peace_65 : decode cX5_peace 65 = .ok (.iload_n 3, 1) := by decide +kernel
theorem dX5_peace_66 : decode cX5_peace 66 = .ok (.iload 6, 2) := by decide +kernel
theorem dX5_peace_68 : decode cX5_peace 68 = .ok (.invokestatic 143, 3) := by decide +kernel
theorem dX5_peace_71 : decode cX5_peace 71 = .ok (.ifCond .eq 17, 3) := by decide +kernel
theorem dX5_peace_74 : decode cX5_peace 74 = .ok (.aload_n 0, 1) := by decide +kernel
theorem dX5_peace_75 : decode cX5_peace 75 = .ok (.iload 6, 2) := by decide +kernel
theorem dX5_peace_77 : decode cX5_peace 77 = .ok (.invokevirtual 147, 3) := by decide +kernel
theorem dX5_peace_80 : decode cX5_peace 80 = .ok (.iload_n 1, 1) := by decide +kernel
theorem dX5_peace_81 : decode cX5_peace 81 = .ok (.imul, 1) := by decide +kernel
theorem dX5_peace_82 : decode cX5_peace 82 = .ok (.iload 4, 2) := by decide +kernel
theorem dX5_peace_84 : decode cX5_peace 84 = .ok (.idiv, 1) := by decide +kernel
theorem dX5_peace_85 : decode cX5_peace 85 = .ok (.goto 4, 3) := by decide +kernel
theorem dX5_peace_88 : decode cX5_peace 88 = .ok (.iconst 0, 1) := by decide +kernel
theorem dX5_peace_89 : decode cX5_peace 89 = .ok (.iastore, 1) := by decide +kernel
theorem dX5_peace_90 : decode cX5_peace 90 = .ok (.iload 5, 2) := by decide +kernel
theorem dX5_peace_92 : decode cX5_peace 92 = .ok (.aload_n 0, 1) := by decide +kernel
theorem dX5_peace_93 : decode cX5_peace 93 = .ok (.getfield 41, 3) := by decide +kernel
theorem dX5_peace_96 : decode cX5_peace 96 = .ok (.iload 6, 2) := by decide +kernel
theorem dX5_peace_98 : decode cX5_peace 98 = .ok (.iaload, 1) := by decide +kernel
theorem dX5_peace_99 : decode cX5_peace 99 = .ok (.isub, 1) := by decide +kernel
theorem dX5_peace_100 : decode cX5_peace 100 = .ok (.istore 5, 2) := by decide +kernel
theorem dX5_peace_102 : decode cX5_peace 102 = .ok (.iinc 6 1, 3) := by decide +kernel
theorem dX5_peace_105 : decode cX5_peace 105 = .ok (.goto (-53), 3) := by decide +kernel
theorem dX5_peace_108 : decode cX5_peace 108 = .ok (.iconst 0, 1) := by decide +kernel
theorem dX5_peace_109 : decode cX5_peace 109 = .ok (.istore 6, 2) := by decide +kernel
theorem dX5_peace_111 : decode cX5_peace 111 = .ok (.iload 6, 2) := by decide +kernel
theorem dX5_peace_113 : decode cX5_peace 113 = .ok (.bipush 6, 2) := by decide +kernel
theorem dX5_peace_115 : decode cX5_peace 115 = .ok (.if_icmp .ge 37, 3) := by decide +kernel
theorem dX5_peace_118 : decode cX5_peace 118 = .ok (.iload_n 3, 1) := by decide +kernel
theorem dX5_peace_119 : decode cX5_peace 119 = .ok (.iload 6, 2) := by decide +kernel
theorem dX5_peace_121 : decode cX5_peace 121 = .ok (.invokestatic 143, 3) := by decide +kernel
theorem dX5_peace_124 : decode cX5_peace 124 = .ok (.ifCond .eq 22, 3) := by decide +kernel
theorem dX5_peace_127 : decode cX5_peace 127 = .ok (.iload 5, 2) := by decide +kernel
theorem dX5_peace_129 : decode cX5_peace 129 = .ok (.ifCond .le 17, 3) := by decide +kernel
theorem dX5_peace_132 : decode cX5_peace 132 = .ok (.aload_n 0, 1) := by decide +kernel
theorem dX5_peace_133 : decode cX5_peace 133 = .ok (.getfield 41, 3) := by decide +kernel
theorem dX5_peace_136 : decode cX5_peace 136 = .ok (.iload 6, 2) := by decide +kernel
theorem dX5_peace_138 : decode cX5_peace 138 = .ok (.dup2, 1) := by decide +kernel
theorem dX5_peace_139 : decode cX5_peace 139 = .ok (.iaload, 1) := by decide +kernel
theorem dX5_peace_140 : decode cX5_peace 140 = .ok (.iconst 1, 1) := by decide +kernel
theorem dX5_peace_141 : decode cX5_peace 141 = .ok (.iadd, 1) := by decide +kernel
theorem dX5_peace_142 : decode cX5_peace 142 = .ok (.iastore, 1) := by decide +kernel
theorem dX5_peace_143 : decode cX5_peace 143 = .ok (.iinc 5 (-1), 3) := by decide +kernel
theorem dX5_peace_146 : decode cX5_peace 146 = .ok (.iinc 6 1, 3) := by decide +kernel
theorem dX5_peace_149 : decode cX5_peace 149 = .ok (.goto (-38), 3) := by decide +kernel
theorem dX5_peace_152 : decode cX5_peace 152 = .ok (.aload_n 0, 1) := by decide +kernel
theorem dX5_peace_153 : decode cX5_peace 153 = .ok (.iload_n 2, 1) := by decide +kernel
theorem dX5_peace_154 : decode cX5_peace 154 = .ok (.invokevirtual 198, 3) := by decide +kernel
theorem dX5_peace_157 : decode cX5_peace 157 = .ok (.iconst 0, 1) := by decide +kernel
theorem dX5_peace_158 : decode cX5_peace 158 = .ok (.istore 6, 2) := by decide +kernel
theorem dX5_peace_160 : decode cX5_peace 160 = .ok (.iload 6, 2) := by decide +kernel
theorem dX5_peace_162 : decode cX5_peace 162 = .ok (.aload_n 0, 1) := by decide +kernel
theorem dX5_peace_163 : decode cX5_peace 163 = .ok (.getfield 25, 3) := by decide +kernel
theorem dX5_peace_166 : decode cX5_peace 166 = .ok (.bipush 7, 2) := by decide +kernel
theorem dX5_peace_168 : decode cX5_peace 168 = .ok (.iaload, 1) := by decide +kernel
theorem dX5_peace_169 : decode cX5_peace 169 = .ok (.if_icmp .ge 88, 3) := by decide +kernel
theorem dX5_peace_172 : decode cX5_peace 172 = .ok (.iconst 0, 1) := by decide +kernel
theorem dX5_peace_173 : decode cX5_peace 173 = .ok (.istore 7, 2) := by decide +kernel
theorem dX5_peace_175 : decode cX5_peace 175 = .ok (.iload 7, 2) := by decide +kernel
theorem dX5_peace_177 : decode cX5_peace 177 = .ok (.aload_n 0, 1) := by decide +kernel
theorem dX5_peace_178 : decode cX5_peace 178 = .ok (.getfield 25, 3) := by decide +kernel
theorem dX5_peace_181 : decode cX5_peace 181 = .ok (.bipush 7, 2) := by decide +kernel
theorem dX5_peace_183 : decode cX5_peace 183 = .ok (.iaload, 1) := by decide +kernel
theorem dX5_peace_184 : decode cX5_peace 184 = .ok (.if_icmp .ge 67, 3) := by decide +kernel
theorem dX5_peace_187 : decode cX5_peace 187 = .ok (.iload_n 3, 1) := by decide +kernel
theorem dX5_peace_188 : decode cX5_peace 188 = .ok (.iload 6, 2) := by decide +kernel
theorem dX5_peace_190 : decode cX5_peace 190 = .ok (.invokestatic 143, 3) := by decide +kernel
theorem dX5_peace_193 : decode cX5_peace 193 = .ok (.ifCond .eq 52, 3) := by decide +kernel
theorem dX5_peace_196 : decode cX5_peace 196 = .ok (.iload_n 3, 1) := by decide +kernel
theorem dX5_peace_197 : decode cX5_peace 197 = .ok (.iload 7, 2) := by decide +kernel
theorem dX5_peace_199 : decode cX5_peace 199 = .ok (.invokestatic 143, 3) := by decide +kernel
theorem dX5_peace_202 : decode cX5_peace 202 = .ok (.ifCond .eq 43, 3) := by decide +kernel
theorem dX5_peace_205 : decode cX5_peace 205 = .ok (.aload_n 0, 1) := by decide +kernel
theorem dX5_peace_206 : decode cX5_peace 206 = .ok (.getfield 41, 3) := by decide +kernel
theorem dX5_peace_209 : decode cX5_peace 209 = .ok (.iload 6, 2) := by decide +kernel
theorem dX5_peace_211 : decode cX5_peace 211 = .ok (.iaload, 1) := by decide +kernel
theorem dX5_peace_212 : decode cX5_peace 212 = .ok (.aload_n 0, 1) := by decide +kernel
theorem dX5_peace_213 : decode cX5_peace 213 = .ok (.getfield 41, 3) := by decide +kernel
theorem dX5_peace_216 : decode cX5_peace 216 = .ok (.iload 7, 2) := by decide +kernel
theorem dX5_peace_218 : decode cX5_peace 218 = .ok (.iaload, 1) := by decide +kernel
theorem dX5_peace_219 : decode cX5_peace 219 = .ok (.if_icmp .ge 26, 3) := by decide +kernel
theorem dX5_peace_222 : decode cX5_peace 222 = .ok (.aload_n 0, 1) := by decide +kernel
theorem dX5_peace_223 : decode cX5_peace 223 = .ok (.iload 7, 2) := by decide +kernel
theorem dX5_peace_225 : decode cX5_peace 225 = .ok (.invokevirtual 147, 3) := by decide +kernel
theorem dX5_peace_228 : decode cX5_peace 228 = .ok (.aload_n 0, 1) := by decide +kernel
theorem dX5_peace_229 : decode cX5_peace 229 = .ok (.iload 6, 2) := by decide +kernel
theorem dX5_peace_231 : decode cX5_peace 231 = .ok (.invokevirtual 147, 3) := by decide +kernel
theorem dX5_peace_234 : decode cX5_peace 234 = .ok (.if_icmp .gt 11, 3) := by decide +kernel
theorem dX5_peace_237 : decode cX5_peace 237 = .ok (.aload_n 0, 1) := by decide +kernel
theorem dX5_peace_238 : decode cX5_peace 238 = .ok (.getfield 41, 3) := by decide +kernel
theorem dX5_peace_241 : decode cX5_peace 241 = .ok (.iload 6, 2) := by decide +kernel
theorem dX5_peace_243 : decode cX5_peace 243 = .ok (.iaload, 1) := by decide +kernel
theorem dX5_peace_244 : decode cX5_peace 244 = .ok (.ireturn, 1) := by decide +kernel
theorem dX5_peace_245 : decode cX5_peace 245 = .ok (.iinc 7 1, 3) := by decide +kernel
theorem dX5_peace_248 : decode cX5_peace 248 = .ok (.goto (-73), 3) := by decide +kernel
theorem dX5_peace_251 : decode cX5_peace 251 = .ok (.iinc 6 1, 3) := by decide +kernel
theorem dX5_peace_254 : decode cX5_peace 254 = .ok (.goto (-94), 3) := by decide +kernel
theorem dX5_peace_257 : decode cX5_peace 257 = .ok (.bipush (-9), 2) := by decide +kernel
theorem dX5_peace_259 : decode cX5_peace 259 = .ok (.ireturn, 1) := by decide +kernel
theorem dX5_costOf_0 : decode cX5_costOf 0 = .ok (.iload_n 1, 1) := by decide +kernel
theorem dX5_costOf_1 : decode cX5_costOf 1 = .ok (.aload_n 0, 1) := by decide +kernel
theorem dX5_costOf_2 : decode cX5_costOf 2 = .ok (.getfield 25, 3) := by decide +kernel
theorem dX5_costOf_5 : decode cX5_costOf 5 = .ok (.iconst 1, 1) := by decide +kernel
theorem dX5_costOf_6 : decode cX5_costOf 6 = .ok (.iaload, 1) := by decide +kernel
theorem dX5_costOf_7 : decode cX5_costOf 7 = .ok (.aload_n 0, 1) := by decide +kernel
theorem dX5_costOf_8 : decode cX5_costOf 8 = .ok (.getfield 25, 3) := by decide +kernel
theorem dX5_costOf_11 : decode cX5_costOf 11 = .ok (.iconst 2, 1) := by decide +kernel
theorem dX5_costOf_12 : decode cX5_costOf 12 = .ok (.iaload, 1) := by decide +kernel
theorem dX5_costOf_13 : decode cX5_costOf 13 = .ok (.iconst 1, 1) := by decide +kernel
theorem dX5_costOf_14 : decode cX5_costOf 14 = .ok (.isub, 1) := by decide +kernel
theorem dX5_costOf_15 : decode cX5_costOf 15 = .ok (.invokestatic 73, 3) := by decide +kernel
theorem dX5_costOf_18 : decode cX5_costOf 18 = .ok (.ifCond .eq 5, 3) := by decide +kernel
theorem dX5_costOf_21 : decode cX5_costOf 21 = .ok (.iconst 1, 1) := by decide +kernel
theorem dX5_costOf_22 : decode cX5_costOf 22 = .ok (.ireturn, 1) := by decide +kernel
theorem dX5_costOf_23 : decode cX5_costOf 23 = .ok (.iconst 0, 1) := by decide +kernel
theorem dX5_costOf_24 : decode cX5_costOf 24 = .ok (.istore_n 2, 1) := by decide +kernel
theorem dX5_costOf_25 : decode cX5_costOf 25 = .ok (.iconst 0, 1) := by decide +kernel
theorem dX5_costOf_26 : decode cX5_costOf 26 = .ok (.istore_n 3, 1) := by decide +kernel
theorem dX5_costOf_27 : decode cX5_costOf 27 = .ok (.iload_n 3, 1) := by decide +kernel
theorem dX5_costOf_28 : decode cX5_costOf 28 = .ok (.aload_n 0, 1) := by decide +kernel
theorem dX5_costOf_29 : decode cX5_costOf 29 = .ok (.getfield 25, 3) := by decide +kernel
theorem dX5_costOf_32 : decode cX5_costOf 32 = .ok (.bipush 7, 2) := by decide +kernel
theorem dX5_costOf_34 : decode cX5_costOf 34 = .ok (.iaload, 1) := by decide +kernel
theorem dX5_costOf_35 : decode cX5_costOf 35 = .ok (.if_icmp .ge 54, 3) := by decide +kernel
theorem dX5_costOf_38 : decode cX5_costOf 38 = .ok (.iload_n 2, 1) := by decide +kernel
theorem dX5_costOf_39 : decode cX5_costOf 39 = .ok (.aload_n 0, 1) := by decide +kernel
theorem dX5_costOf_40 : decode cX5_costOf 40 = .ok (.getfield 25, 3) := by decide +kernel
theorem dX5_costOf_43 : decode cX5_costOf 43 = .ok (.bipush 10, 2) := by decide +kernel
theorem dX5_costOf_45 : decode cX5_costOf 45 = .ok (.iconst 5, 1) := by decide +kernel
theorem dX5_costOf_46 : decode cX5_costOf 46 = .ok (.iload_n 3, 1) := by decide +kernel
theorem dX5_costOf_47 : decode cX5_costOf 47 = .ok (.imul, 1) := by decide +kernel
theorem dX5_costOf_48 : decode cX5_costOf 48 = .ok (.iadd, 1) := by decide +kernel
theorem dX5_costOf_49 : decode cX5_costOf 49 = .ok (.iconst 1, 1) := by decide +kernel
theorem dX5_costOf_50 : decode cX5_costOf 50 = .ok (.iadd, 1) := by decide +kernel
theorem dX5_costOf_51 : decode cX5_costOf 51 = .ok (.iaload, 1) := by decide +kernel
theorem dX5_costOf_52 : decode cX5_costOf 52 = .ok (.iload_n 1, 1) := by decide +kernel
theorem dX5_costOf_53 : decode cX5_costOf 53 = .ok (.if_icmp .ne 27, 3) := by decide +kernel
theorem dX5_costOf_56 : decode cX5_costOf 56 = .ok (.aload_n 0, 1) := by decide +kernel
theorem dX5_costOf_57 : decode cX5_costOf 57 = .ok (.iload_n 3, 1) := by decide +kernel
theorem dX5_costOf_58 : decode cX5_costOf 58 = .ok (.aload_n 0, 1) := by decide +kernel
theorem dX5_costOf_59 : decode cX5_costOf 59 = .ok (.getfield 25, 3) := by decide +kernel
theorem dX5_costOf_62 : decode cX5_costOf 62 = .ok (.iconst 1, 1) := by decide +kernel
theorem dX5_costOf_63 : decode cX5_costOf 63 = .ok (.iaload, 1) := by decide +kernel
theorem dX5_costOf_64 : decode cX5_costOf 64 = .ok (.aload_n 0, 1) := by decide +kernel
theorem dX5_costOf_65 : decode cX5_costOf 65 = .ok (.getfield 25, 3) := by decide +kernel
theorem dX5_costOf_68 : decode cX5_costOf 68 = .ok (.iconst 2, 1) := by decide +kernel
theorem dX5_costOf_69 : decode cX5_costOf 69 = .ok (.iaload, 1) := by decide +kernel
theorem dX5_costOf_70 : decode cX5_costOf 70 = .ok (.invokevirtual 137, 3) := by decide +kernel
theorem dX5_costOf_73 : decode cX5_costOf 73 = .ok (.ifCond .ne 7, 3) := by decide +kernel
theorem dX5_costOf_76 : decode cX5_costOf 76 = .ok (.iconst 1, 1) := by decide +kernel
theorem dX5_costOf_77 : decode cX5_costOf 77 = .ok (.goto 4, 3) := by decide +kernel
theorem dX5_costOf_80 : decode cX5_costOf 80 = .ok (.iconst 0, 1) := by decide +kernel
theorem dX5_costOf_81 : decode cX5_costOf 81 = .ok (.iadd, 1) := by decide +kernel
theorem dX5_costOf_82 : decode cX5_costOf 82 = .ok (.istore_n 2, 1) := by decide +kernel
theorem dX5_costOf_83 : decode cX5_costOf 83 = .ok (.iinc 3 1, 3) := by decide +kernel
theorem dX5_costOf_86 : decode cX5_costOf 86 = .ok (.goto (-59), 3) := by decide +kernel
theorem dX5_costOf_89 : decode cX5_costOf 89 = .ok (.iload_n 1, 1) := by decide +kernel
theorem dX5_costOf_90 : decode cX5_costOf 90 = .ok (.aload_n 0, 1) := by decide +kernel
theorem dX5_costOf_91 : decode cX5_costOf 91 = .ok (.getfield 25, 3) := by decide +kernel
theorem dX5_costOf_94 : decode cX5_costOf 94 = .ok (.iconst 1, 1) := by decide +kernel
theorem dX5_costOf_95 : decode cX5_costOf 95 = .ok (.iaload, 1) := by decide +kernel
theorem dX5_costOf_96 : decode cX5_costOf 96 = .ok (.if_icmp .ge 7, 3) := by decide +kernel
theorem dX5_costOf_99 : decode cX5_costOf 99 = .ok (.iconst 2, 1) := by decide +kernel
theorem dX5_costOf_100 : decode cX5_costOf 100 = .ok (.goto 4, 3) := by decide +kernel
theorem dX5_costOf_103 : decode cX5_costOf 103 = .ok (.iconst 3, 1) := by decide +kernel
theorem dX5_costOf_104 : decode cX5_costOf 104 = .ok (.iload_n 2, 1) := by decide +kernel
theorem dX5_costOf_105 : decode cX5_costOf 105 = .ok (.ifCond .le 7, 3) := by decide +kernel
theorem dX5_costOf_108 : decode cX5_costOf 108 = .ok (.iconst 1, 1) := by decide +kernel
theorem dX5_costOf_109 : decode cX5_costOf 109 = .ok (.goto 4, 3) := by decide +kernel
theorem dX5_costOf_112 : decode cX5_costOf 112 = .ok (.iconst 0, 1) := by decide +kernel
theorem dX5_costOf_113 : decode cX5_costOf 113 = .ok (.iadd, 1) := by decide +kernel
theorem dX5_costOf_114 : decode cX5_costOf 114 = .ok (.ireturn, 1) := by decide +kernel
theorem dX5_wayTo_0 : decode cX5_wayTo 0 = .ok (.iconst 0, 1) := by decide +kernel
theorem dX5_wayTo_1 : decode cX5_wayTo 1 = .ok (.istore_n 3, 1) := by decide +kernel
theorem dX5_wayTo_2 : decode cX5_wayTo 2 = .ok (.iconst 0, 1) := by decide +kernel
theorem dX5_wayTo_3 : decode cX5_wayTo 3 = .ok (.istore 4, 2) := by decide +kernel
theorem dX5_wayTo_5 : decode cX5_wayTo 5 = .ok (.iload 4, 2) := by decide +kernel
theorem dX5_wayTo_7 : decode cX5_wayTo 7 = .ok (.aload_n 0, 1) := by decide +kernel
theorem dX5_wayTo_8 : decode cX5_wayTo 8 = .ok (.getfield 25, 3) := by decide +kernel
theorem dX5_wayTo_11 : decode cX5_wayTo 11 = .ok (.iconst 0, 1) := by decide +kernel
theorem dX5_wayTo_12 : decode cX5_wayTo 12 = .ok (.iaload, 1) := by decide +kernel
theorem dX5_wayTo_13 : decode cX5_wayTo 13 = .ok (.if_icmp .ge 71, 3) := by decide +kernel
theorem dX5_wayTo_16 : decode cX5_wayTo 16 = .ok (.iload_n 1, 1) := by decide +kernel
theorem dX5_wayTo_17 : decode cX5_wayTo 17 = .ok (.iload_n 2, 1) := by decide +kernel
theorem dX5_wayTo_18 : decode cX5_wayTo 18 = .ok (.if_icmp .ge 23, 3) := by decide +kernel
theorem dX5_wayTo_21 : decode cX5_wayTo 21 = .ok (.iload 4, 2) := by decide +kernel
theorem dX5_wayTo_23 : decode cX5_wayTo 23 = .ok (.iload_n 1, 1) := by decide +kernel
theorem dX5_wayTo_24 : decode cX5_wayTo 24 = .ok (.if_icmp .le 13, 3) := by decide +kernel
theorem dX5_wayTo_27 : decode cX5_wayTo 27 = .ok (.iload 4, 2) := by decide +kernel
theorem dX5_wayTo_29 : decode cX5_wayTo 29 = .ok (.iload_n 2, 1) := by decide +kernel
theorem dX5_wayTo_30 : decode cX5_wayTo 30 = .ok (.if_icmp .gt 7, 3) := by decide +kernel
theorem dX5_wayTo_33 : decode cX5_wayTo 33 = .ok (.iconst 1, 1) := by decide +kernel
theorem dX5_wayTo_34 : decode cX5_wayTo 34 = .ok (.goto 24, 3) := by decide +kernel
theorem dX5_wayTo_37 : decode cX5_wayTo 37 = .ok (.iconst 0, 1) := by decide +kernel
theorem dX5_wayTo_38 : decode cX5_wayTo 38 = .ok (.goto 20, 3) := by decide +kernel
theorem dX5_wayTo_41 : decode cX5_wayTo 41 = .ok (.iload 4, 2) := by decide +kernel
theorem dX5_wayTo_43 : decode cX5_wayTo 43 = .ok (.iload_n 1, 1) := by decide +kernel
theorem dX5_wayTo_44 : decode cX5_wayTo 44 = .ok (.if_icmp .ge 13, 3) := by decide +kernel
theorem dX5_wayTo_47 : decode cX5_wayTo 47 = .ok (.iload 4, 2) := by decide +kernel
theorem dX5_wayTo_49 : decode cX5_wayTo 49 = .ok (.iload_n 2, 1) := by decide +kernel
theorem dX5_wayTo_50 : decode cX5_wayTo 50 = .ok (.if_icmp .lt 7, 3) := by decide +kernel
theorem dX5_wayTo_53 : decode cX5_wayTo 53 = .ok (.iconst 1, 1) := by decide +kernel
theorem dX5_wayTo_54 : decode cX5_wayTo 54 = .ok (.goto 4, 3) := by decide +kernel
theorem dX5_wayTo_57 : decode cX5_wayTo 57 = .ok (.iconst 0, 1) := by decide +kernel
theorem dX5_wayTo_58 : decode cX5_wayTo 58 = .ok (.istore 5, 2) := by decide +kernel
theorem dX5_wayTo_60 : decode cX5_wayTo 60 = .ok (.iload_n 3, 1) := by decide +kernel
theorem dX5_wayTo_61 : decode cX5_wayTo 61 = .ok (.iload 5, 2) := by decide +kernel
theorem dX5_wayTo_63 : decode cX5_wayTo 63 = .ok (.ifCond .eq 12, 3) := by decide +kernel
theorem dX5_wayTo_66 : decode cX5_wayTo 66 = .ok (.aload_n 0, 1) := by decide +kernel
theorem dX5_wayTo_67 : decode cX5_wayTo 67 = .ok (.iload 4, 2) := by decide +kernel
theorem dX5_wayTo_69 : decode cX5_wayTo 69 = .ok (.invokevirtual 213, 3) := by decide +kernel
theorem dX5_wayTo_72 : decode cX5_wayTo 72 = .ok (.goto 4, 3) := by decide +kernel
theorem dX5_wayTo_75 : decode cX5_wayTo 75 = .ok (.iconst 0, 1) := by decide +kernel
theorem dX5_wayTo_76 : decode cX5_wayTo 76 = .ok (.iadd, 1) := by decide +kernel
theorem dX5_wayTo_77 : decode cX5_wayTo 77 = .ok (.istore_n 3, 1) := by decide +kernel
theorem dX5_wayTo_78 : decode cX5_wayTo 78 = .ok (.iinc 4 1, 3) := by decide +kernel
theorem dX5_wayTo_81 : decode cX5_wayTo 81 = .ok (.goto (-76), 3) := by decide +kernel
theorem dX5_wayTo_84 : decode cX5_wayTo 84 = .ok (.iload_n 3, 1) := by decide +kernel
theorem dX5_wayTo_85 : decode cX5_wayTo 85 = .ok (.ireturn, 1) := by decide +kernel
theorem dX5_way_0 : decode cX5_way 0 = .ok (.aload_n 0, 1) := by decide +kernel
theorem dX5_way_1 : decode cX5_way 1 = .ok (.iload_n 1, 1) := by decide +kernel
theorem dX5_way_2 : decode cX5_way 2 = .ok (.invokevirtual 195, 3) := by decide +kernel
theorem dX5_way_5 : decode cX5_way 5 = .ok (.ifCond .eq 20, 3) := by decide +kernel
theorem dX5_way_8 : decode cX5_way 8 = .ok (.aload_n 0, 1) := by decide +kernel
theorem dX5_way_9 : decode cX5_way 9 = .ok (.iload_n 2, 1) := by decide +kernel
theorem dX5_way_10 : decode cX5_way 10 = .ok (.invokevirtual 195, 3) := by decide +kernel
theorem dX5_way_13 : decode cX5_way 13 = .ok (.ifCond .eq 12, 3) := by decide +kernel
theorem dX5_way_16 : decode cX5_way 16 = .ok (.aload_n 0, 1) := by decide +kernel
theorem dX5_way_17 : decode cX5_way 17 = .ok (.iload_n 1, 1) := by decide +kernel
theorem dX5_way_18 : decode cX5_way 18 = .ok (.iload_n 2, 1) := by decide +kernel
theorem dX5_way_19 : decode cX5_way 19 = .ok (.invokevirtual 216, 3) := by decide +kernel
theorem dX5_way_22 : decode cX5_way 22 = .ok (.goto 4, 3) := by decide +kernel
theorem dX5_way_25 : decode cX5_way 25 = .ok (.iconst (-1), 1) := by decide +kernel
theorem dX5_way_26 : decode cX5_way 26 = .ok (.ireturn, 1) := by decide +kernel
theorem dX5_farFrom_0 : decode cX5_farFrom 0 = .ok (.iconst 0, 1) := by decide +kernel
theorem dX5_farFrom_1 : decode cX5_farFrom 1 = .ok (.istore_n 2, 1) := by decide +kernel
theorem dX5_farFrom_2 : decode cX5_farFrom 2 = .ok (.iconst 0, 1) := by decide +kernel
theorem dX5_farFrom_3 : decode cX5_farFrom 3 = .ok (.istore_n 3, 1) := by decide +kernel
theorem dX5_farFrom_4 : decode cX5_farFrom 4 = .ok (.iload_n 3, 1) := by decide +kernel
theorem dX5_farFrom_5 : decode cX5_farFrom 5 = .ok (.aload_n 0, 1) := by decide +kernel
theorem dX5_farFrom_6 : decode cX5_farFrom 6 = .ok (.getfield 25, 3) := by decide +kernel
theorem dX5_farFrom_9 : decode cX5_farFrom 9 = .ok (.iconst 0, 1) := by decide +kernel
theorem dX5_farFrom_10 : decode cX5_farFrom 10 = .ok (.iaload, 1) := by decide +kernel
theorem dX5_farFrom_11 : decode cX5_farFrom 11 = .ok (.if_icmp .ge 18, 3) := by decide +kernel
theorem dX5_farFrom_14 : decode cX5_farFrom 14 = .ok (.iload_n 2, 1) := by decide +kernel
theorem dX5_farFrom_15 : decode cX5_farFrom 15 = .ok (.aload_n 0, 1) := by decide +kernel
theorem dX5_farFrom_16 : decode cX5_farFrom 16 = .ok (.iload_n 1, 1) := by decide +kernel
theorem dX5_farFrom_17 : decode cX5_farFrom 17 = .ok (.iload_n 3, 1) := by decide +kernel
theorem dX5_farFrom_18 : decode cX5_farFrom 18 = .ok (.invokevirtual 216, 3) := by decide +kernel
theorem dX5_farFrom_21 : decode cX5_farFrom 21 = .ok (.iadd, 1) := by decide +kernel
theorem dX5_farFrom_22 : decode cX5_farFrom 22 = .ok (.istore_n 2, 1) := by decide +kernel
theorem dX5_farFrom_23 : decode cX5_farFrom 23 = .ok (.iinc 3 1, 3) := by decide +kernel
theorem dX5_farFrom_26 : decode cX5_farFrom 26 = .ok (.goto (-22), 3) := by decide +kernel
theorem dX5_farFrom_29 : decode cX5_farFrom 29 = .ok (.iload_n 2, 1) := by decide +kernel
theorem dX5_farFrom_30 : decode cX5_farFrom 30 = .ok (.ireturn, 1) := by decide +kernel
theorem dX5_far_0 : decode cX5_far 0 = .ok (.aload_n 0, 1) := by decide +kernel
theorem dX5_far_1 : decode cX5_far 1 = .ok (.iload_n 1, 1) := by decide +kernel
theorem dX5_far_2 : decode cX5_far 2 = .ok (.invokevirtual 195, 3) := by decide +kernel
theorem dX5_far_5 : decode cX5_far 5 = .ok (.ifCond .ne 5, 3) := by decide +kernel
theorem dX5_far_8 : decode cX5_far 8 = .ok (.iconst (-1), 1) := by decide +kernel
theorem dX5_far_9 : decode cX5_far 9 = .ok (.ireturn, 1) := by decide +kernel
theorem dX5_far_10 : decode cX5_far 10 = .ok (.iconst 0, 1) := by decide +kernel
theorem dX5_far_11 : decode cX5_far 11 = .ok (.istore_n 2, 1) := by decide +kernel
theorem dX5_far_12 : decode cX5_far 12 = .ok (.iconst 1, 1) := by decide +kernel
theorem dX5_far_13 : decode cX5_far 13 = .ok (.istore_n 3, 1) := by decide +kernel
theorem dX5_far_14 : decode cX5_far 14 = .ok (.iload_n 3, 1) := by decide +kernel
theorem dX5_far_15 : decode cX5_far 15 = .ok (.aload_n 0, 1) := by decide +kernel
theorem dX5_far_16 : decode cX5_far 16 = .ok (.getfield 25, 3) := by decide +kernel
theorem dX5_far_19 : decode cX5_far 19 = .ok (.iconst 0, 1) := by decide +kernel
theorem dX5_far_20 : decode cX5_far 20 = .ok (.iaload, 1) := by decide +kernel
theorem dX5_far_21 : decode cX5_far 21 = .ok (.if_icmp .ge 28, 3) := by decide +kernel
theorem dX5_far_24 : decode cX5_far 24 = .ok (.aload_n 0, 1) := by decide +kernel
theorem dX5_far_25 : decode cX5_far 25 = .ok (.iload_n 3, 1) := by decide +kernel
theorem dX5_far_26 : decode cX5_far 26 = .ok (.invokevirtual 219, 3) := by decide +kernel
theorem dX5_far_29 : decode cX5_far 29 = .ok (.aload_n 0, 1) := by decide +kernel
theorem dX5_far_30 : decode cX5_far 30 = .ok (.iload_n 2, 1) := by decide +kernel
theorem dX5_far_31 : decode cX5_far 31 = .ok (.invokevirtual 219, 3) := by decide +kernel
theorem dX5_far_34 : decode cX5_far 34 = .ok (.if_icmp .ge 7, 3) := by decide +kernel
theorem dX5_far_37 : decode cX5_far 37 = .ok (.iload_n 3, 1) := by decide +kernel
theorem dX5_far_38 : decode cX5_far 38 = .ok (.goto 4, 3) := by decide +kernel
theorem dX5_far_41 : decode cX5_far 41 = .ok (.iload_n 2, 1) := by decide +kernel
theorem dX5_far_42 : decode cX5_far 42 = .ok (.istore_n 2, 1) := by decide +kernel
theorem dX5_far_43 : decode cX5_far 43 = .ok (.iinc 3 1, 3) := by decide +kernel
theorem dX5_far_46 : decode cX5_far 46 = .ok (.goto (-32), 3) := by decide +kernel
theorem dX5_far_49 : decode cX5_far 49 = .ok (.aload_n 0, 1) := by decide +kernel
theorem dX5_far_50 : decode cX5_far 50 = .ok (.aload_n 0, 1) := by decide +kernel
theorem dX5_far_51 : decode cX5_far 51 = .ok (.iload_n 1, 1) := by decide +kernel
theorem dX5_far_52 : decode cX5_far 52 = .ok (.invokevirtual 219, 3) := by decide +kernel
theorem dX5_far_55 : decode cX5_far 55 = .ok (.iload_n 2, 1) := by decide +kernel
theorem dX5_far_56 : decode cX5_far 56 = .ok (.invokevirtual 93, 3) := by decide +kernel
theorem dX5_far_59 : decode cX5_far 59 = .ok (.ireturn, 1) := by decide +kernel
theorem dX5_barred_0 : decode cX5_barred 0 = .ok (.aload_n 0, 1) := by decide +kernel
theorem dX5_barred_1 : decode cX5_barred 1 = .ok (.iload_n 1, 1) := by decide +kernel
theorem dX5_barred_2 : decode cX5_barred 2 = .ok (.invokevirtual 150, 3) := by decide +kernel
theorem dX5_barred_5 : decode cX5_barred 5 = .ok (.ifCond .eq 10, 3) := by decide +kernel
theorem dX5_barred_8 : decode cX5_barred 8 = .ok (.iload_n 2, 1) := by decide +kernel
theorem dX5_barred_9 : decode cX5_barred 9 = .ok (.invokestatic 77, 3) := by decide +kernel
theorem dX5_barred_12 : decode cX5_barred 12 = .ok (.ifCond .ne 5, 3) := by decide +kernel
theorem dX5_barred_15 : decode cX5_barred 15 = .ok (.iconst (-1), 1) := by decide +kernel
theorem dX5_barred_16 : decode cX5_barred 16 = .ok (.ireturn, 1) := by decide +kernel
theorem dX5_barred_17 : decode cX5_barred 17 = .ok (.aload_n 0, 1) := by decide +kernel
theorem dX5_barred_18 : decode cX5_barred 18 = .ok (.getfield 7, 3) := by decide +kernel
theorem dX5_barred_21 : decode cX5_barred 21 = .ok (.iload_n 2, 1) := by decide +kernel
theorem dX5_barred_22 : decode cX5_barred 22 = .ok (.iaload, 1) := by decide +kernel
theorem dX5_barred_23 : decode cX5_barred 23 = .ok (.ifCond .ge 9, 3) := by decide +kernel
theorem dX5_barred_26 : decode cX5_barred 26 = .ok (.aload_n 0, 1) := by decide +kernel
theorem dX5_barred_27 : decode cX5_barred 27 = .ok (.iconst 1, 1) := by decide +kernel
theorem dX5_barred_28 : decode cX5_barred 28 = .ok (.invokevirtual 81, 3) := by decide +kernel
theorem dX5_barred_31 : decode cX5_barred 31 = .ok (.ireturn, 1) := by decide +kernel
theorem dX5_barred_32 : decode cX5_barred 32 = .ok (.aload_n 0, 1) := by decide +kernel
theorem dX5_barred_33 : decode cX5_barred 33 = .ok (.getfield 7, 3) := by decide +kernel
theorem dX5_barred_36 : decode cX5_barred 36 = .ok (.iload_n 2, 1) := by decide +kernel
theorem dX5_barred_37 : decode cX5_barred 37 = .ok (.iaload, 1) := by decide +kernel
theorem dX5_barred_38 : decode cX5_barred 38 = .ok (.iconst 3, 1) := by decide +kernel
theorem dX5_barred_39 : decode cX5_barred 39 = .ok (.irem, 1) := by decide +kernel
theorem dX5_barred_40 : decode cX5_barred 40 = .ok (.ifCond .eq 9, 3) := by decide +kernel
theorem dX5_barred_43 : decode cX5_barred 43 = .ok (.aload_n 0, 1) := by decide +kernel
theorem dX5_barred_44 : decode cX5_barred 44 = .ok (.iconst 5, 1) := by decide +kernel
theorem dX5_barred_45 : decode cX5_barred 45 = .ok (.invokevirtual 81, 3) := by decide +kernel
theorem dX5_barred_48 : decode cX5_barred 48 = .ok (.ireturn, 1) := by decide +kernel
theorem dX5_barred_49 : decode cX5_barred 49 = .ok (.iconst 1, 1) := by decide +kernel
theorem dX5_barred_50 : decode cX5_barred 50 = .ok (.istore_n 3, 1) := by decide +kernel
theorem dX5_barred_51 : decode cX5_barred 51 = .ok (.iconst 0, 1) := by decide +kernel
theorem dX5_barred_52 : decode cX5_barred 52 = .ok (.istore 4, 2) := by decide +kernel
theorem dX5_barred_54 : decode cX5_barred 54 = .ok (.iload 4, 2) := by decide +kernel
theorem dX5_barred_56 : decode cX5_barred 56 = .ok (.aload_n 0, 1) := by decide +kernel
theorem dX5_barred_57 : decode cX5_barred 57 = .ok (.getfield 7, 3) := by decide +kernel
theorem dX5_barred_60 : decode cX5_barred 60 = .ok (.iload_n 2, 1) := by decide +kernel
theorem dX5_barred_61 : decode cX5_barred 61 = .ok (.iaload, 1) := by decide +kernel
theorem dX5_barred_62 : decode cX5_barred 62 = .ok (.if_icmp .ge 68, 3) := by decide +kernel
theorem dX5_barred_65 : decode cX5_barred 65 = .ok (.bipush 40, 2) := by decide +kernel
theorem dX5_barred_67 : decode cX5_barred 67 = .ok (.iload_n 2, 1) := by decide +kernel
theorem dX5_barred_68 : decode cX5_barred 68 = .ok (.imul, 1) := by decide +kernel
theorem dX5_barred_69 : decode cX5_barred 69 = .ok (.iload 4, 2) := by decide +kernel
theorem dX5_barred_71 : decode cX5_barred 71 = .ok (.iadd, 1) := by decide +kernel
theorem dX5_barred_72 : decode cX5_barred 72 = .ok (.istore 5, 2) := by decide +kernel
theorem dX5_barred_74 : decode cX5_barred 74 = .ok (.iload_n 3, 1) := by decide +kernel
theorem dX5_barred_75 : decode cX5_barred 75 = .ok (.ifCond .eq 47, 3) := by decide +kernel
theorem dX5_barred_78 : decode cX5_barred 78 = .ok (.aload_n 0, 1) := by decide +kernel
theorem dX5_barred_79 : decode cX5_barred 79 = .ok (.aload_n 0, 1) := by decide +kernel
theorem dX5_barred_80 : decode cX5_barred 80 = .ok (.getfield 13, 3) := by decide +kernel
theorem dX5_barred_83 : decode cX5_barred 83 = .ok (.iload 5, 2) := by decide +kernel
theorem dX5_barred_85 : decode cX5_barred 85 = .ok (.iaload, 1) := by decide +kernel
theorem dX5_barred_86 : decode cX5_barred 86 = .ok (.aload_n 0, 1) := by decide +kernel
theorem dX5_barred_87 : decode cX5_barred 87 = .ok (.getfield 13, 3) := by decide +kernel
theorem dX5_barred_90 : decode cX5_barred 90 = .ok (.iload 5, 2) := by decide +kernel
theorem dX5_barred_92 : decode cX5_barred 92 = .ok (.iconst 1, 1) := by decide +kernel
theorem dX5_barred_93 : decode cX5_barred 93 = .ok (.iadd, 1) := by decide +kernel
theorem dX5_barred_94 : decode cX5_barred 94 = .ok (.iaload, 1) := by decide +kernel
theorem dX5_barred_95 : decode cX5_barred 95 = .ok (.invokevirtual 192, 3) := by decide +kernel
theorem dX5_barred_98 : decode cX5_barred 98 = .ok (.ifCond .eq 24, 3) := by decide +kernel
theorem dX5_barred_101 : decode cX5_barred 101 = .ok (.aload_n 0, 1) := by decide +kernel
theorem dX5_barred_102 : decode cX5_barred 102 = .ok (.getfield 13, 3) := by decide +kernel
theorem dX5_barred_105 : decode cX5_barred 105 = .ok (.iload 5, 2) := by decide +kernel
theorem dX5_barred_107 : decode cX5_barred 107 = .ok (.iconst 2, 1) := by decide +kernel
theorem dX5_barred_108 : decode cX5_barred 108 = .ok (.iadd, 1) := by decide +kernel
theorem dX5_barred_109 : decode cX5_barred 109 = .ok (.iaload, 1) := by decide +kernel
theorem dX5_barred_110 : decode cX5_barred 110 = .ok (.iconst 0, 1) := by decide +kernel
theorem dX5_barred_111 : decode cX5_barred 111 = .ok (.iconst 1, 1) := by decide +kernel
theorem dX5_barred_112 : decode cX5_barred 112 = .ok (.invokestatic 73, 3) := by decide +kernel
theorem dX5_barred_115 : decode cX5_barred 115 = .ok (.ifCond .eq 7, 3) := by decide +kernel
theorem dX5_barred_118 : decode cX5_barred 118 = .ok (.iconst 1, 1) := by decide +kernel
theorem dX5_barred_119 : decode cX5_barred 119 = .ok (.goto 4, 3) := by decide +kernel
theorem dX5_barred_122 : decode cX5_barred 122 = .ok (.iconst 0, 1) := by decide +kernel
theorem dX5_barred_123 : decode cX5_barred 123 = .ok (.istore_n 3, 1) := by decide +kernel
theorem dX5_barred_124 : decode cX5_barred 124 = .ok (.iinc 4 3, 3) := by decide +kernel
theorem dX5_barred_127 : decode cX5_barred 127 = .ok (.goto (-73), 3) := by decide +kernel
theorem dX5_barred_130 : decode cX5_barred 130 = .ok (.iload_n 3, 1) := by decide +kernel
theorem dX5_barred_131 : decode cX5_barred 131 = .ok (.ifCond .eq 7, 3) := by decide +kernel
theorem dX5_barred_134 : decode cX5_barred 134 = .ok (.iconst 0, 1) := by decide +kernel
theorem dX5_barred_135 : decode cX5_barred 135 = .ok (.goto 8, 3) := by decide +kernel
theorem dX5_barred_138 : decode cX5_barred 138 = .ok (.aload_n 0, 1) := by decide +kernel
theorem dX5_barred_139 : decode cX5_barred 139 = .ok (.iconst 3, 1) := by decide +kernel
theorem dX5_barred_140 : decode cX5_barred 140 = .ok (.invokevirtual 81, 3) := by decide +kernel
theorem dX5_barred_143 : decode cX5_barred 143 = .ok (.ireturn, 1) := by decide +kernel
theorem dX5_goesWith_0 : decode cX5_goesWith 0 = .ok (.iconst 1, 1) := by decide +kernel
theorem dX5_goesWith_1 : decode cX5_goesWith 1 = .ok (.istore 5, 2) := by decide +kernel
theorem dX5_goesWith_3 : decode cX5_goesWith 3 = .ok (.iconst 0, 1) := by decide +kernel
theorem dX5_goesWith_4 : decode cX5_goesWith 4 = .ok (.istore 6, 2) := by decide +kernel
theorem dX5_goesWith_6 : decode cX5_goesWith 6 = .ok (.iload 6, 2) := by decide +kernel
theorem dX5_goesWith_8 : decode cX5_goesWith 8 = .ok (.aload_n 0, 1) := by decide +kernel
theorem dX5_goesWith_9 : decode cX5_goesWith 9 = .ok (.getfield 7, 3) := by decide +kernel
theorem dX5_goesWith_12 : decode cX5_goesWith 12 = .ok (.iload_n 2, 1) := by decide +kernel
theorem dX5_goesWith_13 : decode cX5_goesWith 13 = .ok (.iaload, 1) := by decide +kernel
theorem dX5_goesWith_14 : decode cX5_goesWith 14 = .ok (.if_icmp .ge 87, 3) := by decide +kernel
theorem dX5_goesWith_17 : decode cX5_goesWith 17 = .ok (.bipush 40, 2) := by decide +kernel
theorem dX5_goesWith_19 : decode cX5_goesWith 19 = .ok (.iload_n 2, 1) := by decide +kernel
theorem dX5_goesWith_20 : decode cX5_goesWith 20 = .ok (.imul, 1) := by decide +kernel
theorem dX5_goesWith_21 : decode cX5_goesWith 21 = .ok (.iload 6, 2) := by decide +kernel
theorem dX5_goesWith_23 : decode cX5_goesWith 23 = .ok (.iadd, 1) := by decide +kernel
theorem dX5_goesWith_24 : decode cX5_goesWith 24 = .ok (.istore 7, 2) := by decide +kernel
theorem dX5_goesWith_26 : decode cX5_goesWith 26 = .ok (.iload 5, 2) := by decide +kernel
theorem dX5_goesWith_28 : decode cX5_goesWith 28 = .ok (.ifCond .eq 64, 3) := by decide +kernel
theorem dX5_goesWith_31 : decode cX5_goesWith 31 = .ok (.aload_n 0, 1) := by decide +kernel
theorem dX5_goesWith_32 : decode cX5_goesWith 32 = .ok (.iload_n 3, 1) := by decide +kernel
theorem dX5_goesWith_33 : decode cX5_goesWith 33 = .ok (.iload 4, 2) := by decide +kernel
theorem dX5_goesWith_35 : decode cX5_goesWith 35 = .ok (.aload_n 0, 1) := by decide +kernel
theorem dX5_goesWith_36 : decode cX5_goesWith 36 = .ok (.getfield 25, 3) := by decide +kernel
theorem dX5_goesWith_39 : decode cX5_goesWith 39 = .ok (.bipush 10, 2) := by decide +kernel
theorem dX5_goesWith_41 : decode cX5_goesWith 41 = .ok (.iconst 5, 1) := by decide +kernel
theorem dX5_goesWith_42 : decode cX5_goesWith 42 = .ok (.iload_n 1, 1) := by decide +kernel
theorem dX5_goesWith_43 : decode cX5_goesWith 43 = .ok (.imul, 1) := by decide +kernel
theorem dX5_goesWith_44 : decode cX5_goesWith 44 = .ok (.iadd, 1) := by decide +kernel
theorem dX5_goesWith_45 : decode cX5_goesWith 45 = .ok (.iconst 2, 1) := by decide +kernel
theorem dX5_goesWith_46 : decode cX5_goesWith 46 = .ok (.iadd, 1) := by decide +kernel
theorem dX5_goesWith_47 : decode cX5_goesWith 47 = .ok (.iaload, 1) := by decide +kernel
theorem dX5_goesWith_48 : decode cX5_goesWith 48 = .ok (.aload_n 0, 1) := by decide +kernel
theorem dX5_goesWith_49 : decode cX5_goesWith 49 = .ok (.getfield 13, 3) := by decide +kernel
theorem dX5_goesWith_52 : decode cX5_goesWith 52 = .ok (.iload 7, 2) := by decide +kernel
theorem dX5_goesWith_54 : decode cX5_goesWith 54 = .ok (.iaload, 1) := by decide +kernel
theorem dX5_goesWith_55 : decode cX5_goesWith 55 = .ok (.aload_n 0, 1) := by decide +kernel
theorem dX5_goesWith_56 : decode cX5_goesWith 56 = .ok (.getfield 13, 3) := by decide +kernel
theorem dX5_goesWith_59 : decode cX5_goesWith 59 = .ok (.iload 7, 2) := by decide +kernel
theorem dX5_goesWith_61 : decode cX5_goesWith 61 = .ok (.iconst 1, 1) := by decide +kernel
theorem dX5_goesWith_62 : decode cX5_goesWith 62 = .ok (.iadd, 1) := by decide +kernel
theorem dX5_goesWith_63 : decode cX5_goesWith 63 = .ok (.iaload, 1) := by decide +kernel
theorem dX5_goesWith_64 : decode cX5_goesWith 64 = .ok (.invokevirtual 133, 3) := by decide +kernel
theorem dX5_goesWith_67 : decode cX5_goesWith 67 = .ok (.aload_n 0, 1) := by decide +kernel
theorem dX5_goesWith_68 : decode cX5_goesWith 68 = .ok (.getfield 13, 3) := by decide +kernel
theorem dX5_goesWith_71 : decode cX5_goesWith 71 = .ok (.iload 7, 2) := by decide +kernel
theorem dX5_goesWith_73 : decode cX5_goesWith 73 = .ok (.iconst 2, 1) := by decide +kernel
theorem dX5_goesWith_74 : decode cX5_goesWith 74 = .ok (.iadd, 1) := by decide +kernel
theorem dX5_goesWith_75 : decode cX5_goesWith 75 = .ok (.iaload, 1) := by decide +kernel
theorem dX5_goesWith_76 : decode cX5_goesWith 76 = .ok (.iconst 1, 1) := by decide +kernel
theorem dX5_goesWith_77 : decode cX5_goesWith 77 = .ok (.if_icmp .ne 7, 3) := by decide +kernel
theorem dX5_goesWith_80 : decode cX5_goesWith 80 = .ok (.iconst 1, 1) := by decide +kernel
theorem dX5_goesWith_81 : decode cX5_goesWith 81 = .ok (.goto 4, 3) := by decide +kernel
theorem dX5_goesWith_84 : decode cX5_goesWith 84 = .ok (.iconst 0, 1) := by decide +kernel
theorem dX5_goesWith_85 : decode cX5_goesWith 85 = .ok (.if_icmp .ne 7, 3) := by decide +kernel
theorem dX5_goesWith_88 : decode cX5_goesWith 88 = .ok (.iconst 1, 1) := by decide +kernel
theorem dX5_goesWith_89 : decode cX5_goesWith 89 = .ok (.goto 4, 3) := by decide +kernel
theorem dX5_goesWith_92 : decode cX5_goesWith 92 = .ok (.iconst 0, 1) := by decide +kernel
theorem dX5_goesWith_93 : decode cX5_goesWith 93 = .ok (.istore 5, 2) := by decide +kernel
theorem dX5_goesWith_95 : decode cX5_goesWith 95 = .ok (.iinc 6 3, 3) := by decide +kernel
theorem dX5_goesWith_98 : decode cX5_goesWith 98 = .ok (.goto (-92), 3) := by decide +kernel
theorem dX5_goesWith_101 : decode cX5_goesWith 101 = .ok (.iload 5, 2) := by decide +kernel
theorem dX5_goesWith_103 : decode cX5_goesWith 103 = .ok (.ireturn, 1) := by decide +kernel
theorem dX5_kinds_0 : decode cX5_kinds 0 = .ok (.aload_n 0, 1) := by decide +kernel
theorem dX5_kinds_1 : decode cX5_kinds 1 = .ok (.iload_n 1, 1) := by decide +kernel
theorem dX5_kinds_2 : decode cX5_kinds 2 = .ok (.iload_n 2, 1) := by decide +kernel
theorem dX5_kinds_3 : decode cX5_kinds 3 = .ok (.invokevirtual 222, 3) := by decide +kernel
theorem dX5_kinds_6 : decode cX5_kinds 6 = .ok (.istore_n 3, 1) := by decide +kernel
theorem dX5_kinds_7 : decode cX5_kinds 7 = .ok (.iload_n 3, 1) := by decide +kernel
theorem dX5_kinds_8 : decode cX5_kinds 8 = .ok (.ifCond .eq 5, 3) := by decide +kernel
theorem dX5_kinds_11 : decode cX5_kinds 11 = .ok (.iload_n 3, 1) := by decide +kernel
theorem dX5_kinds_12 : decode cX5_kinds 12 = .ok (.ireturn, 1) := by decide +kernel
theorem dX5_kinds_13 : decode cX5_kinds 13 = .ok (.iconst 0, 1) := by decide +kernel
theorem dX5_kinds_14 : decode cX5_kinds 14 = .ok (.istore 4, 2) := by decide +kernel
theorem dX5_kinds_16 : decode cX5_kinds 16 = .ok (.iconst 0, 1) := by decide +kernel
theorem dX5_kinds_17 : decode cX5_kinds 17 = .ok (.istore 5, 2) := by decide +kernel
theorem dX5_kinds_19 : decode cX5_kinds 19 = .ok (.iload 5, 2) := by decide +kernel
theorem dX5_kinds_21 : decode cX5_kinds 21 = .ok (.bipush 6, 2) := by decide +kernel
theorem dX5_kinds_23 : decode cX5_kinds 23 = .ok (.if_icmp .ge 46, 3) := by decide +kernel
theorem dX5_kinds_26 : decode cX5_kinds 26 = .ok (.iload 4, 2) := by decide +kernel
theorem dX5_kinds_28 : decode cX5_kinds 28 = .ok (.aload_n 0, 1) := by decide +kernel
theorem dX5_kinds_29 : decode cX5_kinds 29 = .ok (.iload_n 1, 1) := by decide +kernel
theorem dX5_kinds_30 : decode cX5_kinds 30 = .ok (.iload_n 2, 1) := by decide +kernel
theorem dX5_kinds_31 : decode cX5_kinds 31 = .ok (.iload 5, 2) := by decide +kernel
theorem dX5_kinds_33 : decode cX5_kinds 33 = .ok (.aload_n 0, 1) := by decide +kernel
theorem dX5_kinds_34 : decode cX5_kinds 34 = .ok (.getfield 25, 3) := by decide +kernel
theorem dX5_kinds_37 : decode cX5_kinds 37 = .ok (.bipush 10, 2) := by decide +kernel
theorem dX5_kinds_39 : decode cX5_kinds 39 = .ok (.iconst 5, 1) := by decide +kernel
theorem dX5_kinds_40 : decode cX5_kinds 40 = .ok (.iload_n 1, 1) := by decide +kernel
theorem dX5_kinds_41 : decode cX5_kinds 41 = .ok (.imul, 1) := by decide +kernel
theorem dX5_kinds_42 : decode cX5_kinds 42 = .ok (.iadd, 1) := by decide +kernel
theorem dX5_kinds_43 : decode cX5_kinds 43 = .ok (.iconst 1, 1) := by decide +kernel
theorem dX5_kinds_44 : decode cX5_kinds 44 = .ok (.iadd, 1) := by decide +kernel
theorem dX5_kinds_45 : decode cX5_kinds 45 = .ok (.iaload, 1) := by decide +kernel
theorem dX5_kinds_46 : decode cX5_kinds 46 = .ok (.invokevirtual 225, 3) := by decide +kernel
theorem dX5_kinds_49 : decode cX5_kinds 49 = .ok (.ifCond .eq 10, 3) := by decide +kernel
theorem dX5_kinds_52 : decode cX5_kinds 52 = .ok (.iconst 1, 1) := by decide +kernel
theorem dX5_kinds_53 : decode cX5_kinds 53 = .ok (.iload 5, 2) := by decide +kernel
theorem dX5_kinds_55 : decode cX5_kinds 55 = .ok (.ishl, 1) := by decide +kernel
theorem dX5_kinds_56 : decode cX5_kinds 56 = .ok (.goto 4, 3) := by decide +kernel
theorem dX5_kinds_59 : decode cX5_kinds 59 = .ok (.iconst 0, 1) := by decide +kernel
theorem dX5_kinds_60 : decode cX5_kinds 60 = .ok (.ior, 1) := by decide +kernel
theorem dX5_kinds_61 : decode cX5_kinds 61 = .ok (.istore 4, 2) := by decide +kernel
theorem dX5_kinds_63 : decode cX5_kinds 63 = .ok (.iinc 5 1, 3) := by decide +kernel
theorem dX5_kinds_66 : decode cX5_kinds 66 = .ok (.goto (-47), 3) := by decide +kernel
theorem dX5_kinds_69 : decode cX5_kinds 69 = .ok (.iload 4, 2) := by decide +kernel
theorem dX5_kinds_71 : decode cX5_kinds 71 = .ok (.ireturn, 1) := by decide +kernel
theorem dX5_spots_0 : decode cX5_spots 0 = .ok (.aload_n 0, 1) := by decide +kernel
theorem dX5_spots_1 : decode cX5_spots 1 = .ok (.iload_n 1, 1) := by decide +kernel
theorem dX5_spots_2 : decode cX5_spots 2 = .ok (.iload_n 2, 1) := by decide +kernel
theorem dX5_spots_3 : decode cX5_spots 3 = .ok (.invokevirtual 222, 3) := by decide +kernel
theorem dX5_spots_6 : decode cX5_spots 6 = .ok (.istore_n 3, 1) := by decide +kernel
theorem dX5_spots_7 : decode cX5_spots 7 = .ok (.iload_n 3, 1) := by decide +kernel
theorem dX5_spots_8 : decode cX5_spots 8 = .ok (.ifCond .eq 5, 3) := by decide +kernel
theorem dX5_spots_11 : decode cX5_spots 11 = .ok (.iload_n 3, 1) := by decide +kernel
theorem dX5_spots_12 : decode cX5_spots 12 = .ok (.ireturn, 1) := by decide +kernel
theorem dX5_spots_13 : decode cX5_spots 13 = .ok (.iconst 0, 1) := by decide +kernel
theorem dX5_spots_14 : decode cX5_spots 14 = .ok (.istore 4, 2) := by decide +kernel
theorem dX5_spots_16 : decode cX5_spots 16 = .ok (.iconst 0, 1) := by decide +kernel
theorem dX5_spots_17 : decode cX5_spots 17 = .ok (.istore 5, 2) := by decide +kernel
theorem dX5_spots_19 : decode cX5_spots 19 = .ok (.iload 5, 2) := by decide +kernel
theorem dX5_spots_21 : decode cX5_spots 21 = .ok (.aload_n 0, 1) := by decide +kernel
theorem dX5_spots_22 : decode cX5_spots 22 = .ok (.getfield 25, 3) := by decide +kernel
theorem dX5_spots_25 : decode cX5_spots 25 = .ok (.iconst 0, 1) := by decide +kernel
theorem dX5_spots_26 : decode cX5_spots 26 = .ok (.iaload, 1) := by decide +kernel
theorem dX5_spots_27 : decode cX5_spots 27 = .ok (.if_icmp .ge 44, 3) := by decide +kernel
theorem dX5_spots_30 : decode cX5_spots 30 = .ok (.iload 4, 2) := by decide +kernel
theorem dX5_spots_32 : decode cX5_spots 32 = .ok (.aload_n 0, 1) := by decide +kernel
theorem dX5_spots_33 : decode cX5_spots 33 = .ok (.iload_n 1, 1) := by decide +kernel
theorem dX5_spots_34 : decode cX5_spots 34 = .ok (.iload_n 2, 1) := by decide +kernel
theorem dX5_spots_35 : decode cX5_spots 35 = .ok (.aload_n 0, 1) := by decide +kernel
theorem dX5_spots_36 : decode cX5_spots 36 = .ok (.getfield 25, 3) := by decide +kernel
theorem dX5_spots_39 : decode cX5_spots 39 = .ok (.bipush 10, 2) := by decide +kernel
theorem dX5_spots_41 : decode cX5_spots 41 = .ok (.iconst 5, 1) := by decide +kernel
theorem dX5_spots_42 : decode cX5_spots 42 = .ok (.iload_n 1, 1) := by decide +kernel
theorem dX5_spots_43 : decode cX5_spots 43 = .ok (.imul, 1) := by decide +kernel
theorem dX5_spots_44 : decode cX5_spots 44 = .ok (.iadd, 1) := by decide +kernel
theorem dX5_spots_45 : decode cX5_spots 45 = .ok (.iaload, 1) := by decide +kernel
theorem dX5_spots_46 : decode cX5_spots 46 = .ok (.iload 5, 2) := by decide +kernel
theorem dX5_spots_48 : decode cX5_spots 48 = .ok (.invokevirtual 225, 3) := by decide +kernel
theorem dX5_spots_51 : decode cX5_spots 51 = .ok (.ifCond .eq 10, 3) := by decide +kernel
theorem dX5_spots_54 : decode cX5_spots 54 = .ok (.iconst 1, 1) := by decide +kernel
theorem dX5_spots_55 : decode cX5_spots 55 = .ok (.iload 5, 2) := by decide +kernel
theorem dX5_spots_57 : decode cX5_spots 57 = .ok (.ishl, 1) := by decide +kernel
theorem dX5_spots_58 : decode cX5_spots 58 = .ok (.goto 4, 3) := by decide +kernel
theorem dX5_spots_61 : decode cX5_spots 61 = .ok (.iconst 0, 1) := by decide +kernel
theorem dX5_spots_62 : decode cX5_spots 62 = .ok (.ior, 1) := by decide +kernel
theorem dX5_spots_63 : decode cX5_spots 63 = .ok (.istore 4, 2) := by decide +kernel
theorem dX5_spots_65 : decode cX5_spots 65 = .ok (.iinc 5 1, 3) := by decide +kernel
theorem dX5_spots_68 : decode cX5_spots 68 = .ok (.goto (-49), 3) := by decide +kernel
theorem dX5_spots_71 : decode cX5_spots 71 = .ok (.iload 4, 2) := by decide +kernel
theorem dX5_spots_73 : decode cX5_spots 73 = .ok (.ireturn, 1) := by decide +kernel
theorem dX5_waysOf_0 : decode cX5_waysOf 0 = .ok (.iload_n 1, 1) := by decide +kernel
theorem dX5_waysOf_1 : decode cX5_waysOf 1 = .ok (.iload_n 0, 1) := by decide +kernel
theorem dX5_waysOf_2 : decode cX5_waysOf 2 = .ok (.iconst (-1), 1) := by decide +kernel
theorem dX5_waysOf_3 : decode cX5_waysOf 3 = .ok (.ixor, 1) := by decide +kernel
theorem dX5_waysOf_4 : decode cX5_waysOf 4 = .ok (.iand, 1) := by decide +kernel
theorem dX5_waysOf_5 : decode cX5_waysOf 5 = .ok (.ifCond .ne 7, 3) := by decide +kernel
theorem dX5_waysOf_8 : decode cX5_waysOf 8 = .ok (.lconst 1, 1) := by decide +kernel
theorem dX5_waysOf_9 : decode cX5_waysOf 9 = .ok (.goto 4, 3) := by decide +kernel
theorem dX5_waysOf_12 : decode cX5_waysOf 12 = .ok (.lconst 0, 1) := by decide +kernel
theorem dX5_waysOf_13 : decode cX5_waysOf 13 = .ok (.lstore_n 3, 1) := by decide +kernel
theorem dX5_waysOf_14 : decode cX5_waysOf 14 = .ok (.iconst 0, 1) := by decide +kernel
theorem dX5_waysOf_15 : decode cX5_waysOf 15 = .ok (.istore 5, 2) := by decide +kernel
theorem dX5_waysOf_17 : decode cX5_waysOf 17 = .ok (.iload 5, 2) := by decide +kernel
theorem dX5_waysOf_19 : decode cX5_waysOf 19 = .ok (.bipush 6, 2) := by decide +kernel
theorem dX5_waysOf_21 : decode cX5_waysOf 21 = .ok (.if_icmp .ge 44, 3) := by decide +kernel
theorem dX5_waysOf_24 : decode cX5_waysOf 24 = .ok (.lload_n 3, 1) := by decide +kernel
theorem dX5_waysOf_25 : decode cX5_waysOf 25 = .ok (.iload_n 0, 1) := by decide +kernel
theorem dX5_waysOf_26 : decode cX5_waysOf 26 = .ok (.iload 5, 2) := by decide +kernel
theorem dX5_waysOf_28 : decode cX5_waysOf 28 = .ok (.invokestatic 143, 3) := by decide +kernel
theorem dX5_waysOf_31 : decode cX5_waysOf 31 = .ok (.ifCond .ne 7, 3) := by decide +kernel
theorem dX5_waysOf_34 : decode cX5_waysOf 34 = .ok (.lconst 1, 1) := by decide +kernel
theorem dX5_waysOf_35 : decode cX5_waysOf 35 = .ok (.goto 22, 3) := by decide +kernel
theorem dX5_waysOf_38 : decode cX5_waysOf 38 = .ok (.iload_n 1, 1) := by decide +kernel
theorem dX5_waysOf_39 : decode cX5_waysOf 39 = .ok (.iload 5, 2) := by decide +kernel
theorem dX5_waysOf_41 : decode cX5_waysOf 41 = .ok (.invokestatic 143, 3) := by decide +kernel
theorem dX5_waysOf_44 : decode cX5_waysOf 44 = .ok (.ifCond .eq 8, 3) := by decide +kernel
theorem dX5_waysOf_47 : decode cX5_waysOf 47 = .ok (.iload_n 2, 1) := by decide +kernel
theorem dX5_waysOf_48 : decode cX5_waysOf 48 = .ok (.i2l, 1) := by decide +kernel
theorem dX5_waysOf_49 : decode cX5_waysOf 49 = .ok (.goto 8, 3) := by decide +kernel
theorem dX5_waysOf_52 : decode cX5_waysOf 52 = .ok (.bipush 12, 2) := by decide +kernel
theorem dX5_waysOf_54 : decode cX5_waysOf 54 = .ok (.iload_n 2, 1) := by decide +kernel
theorem dX5_waysOf_55 : decode cX5_waysOf 55 = .ok (.isub, 1) := by decide +kernel
theorem dX5_waysOf_56 : decode cX5_waysOf 56 = .ok (.i2l, 1) := by decide +kernel
theorem dX5_waysOf_57 : decode cX5_waysOf 57 = .ok (.lmul, 1) := by decide +kernel
theorem dX5_waysOf_58 : decode cX5_waysOf 58 = .ok (.lstore_n 3, 1) := by decide +kernel
theorem dX5_waysOf_59 : decode cX5_waysOf 59 = .ok (.iinc 5 1, 3) := by decide +kernel
theorem dX5_waysOf_62 : decode cX5_waysOf 62 = .ok (.goto (-45), 3) := by decide +kernel
theorem dX5_waysOf_65 : decode cX5_waysOf 65 = .ok (.lload_n 3, 1) := by decide +kernel
theorem dX5_waysOf_66 : decode cX5_waysOf 66 = .ok (.lreturn, 1) := by decide +kernel
theorem dX5_belowOf_0 : decode cX5_belowOf 0 = .ok (.lconst 1, 1) := by decide +kernel
theorem dX5_belowOf_1 : decode cX5_belowOf 1 = .ok (.lstore_n 1, 1) := by decide +kernel
theorem dX5_belowOf_2 : decode cX5_belowOf 2 = .ok (.iconst 0, 1) := by decide +kernel
theorem dX5_belowOf_3 : decode cX5_belowOf 3 = .ok (.istore_n 3, 1) := by decide +kernel
theorem dX5_belowOf_4 : decode cX5_belowOf 4 = .ok (.iload_n 3, 1) := by decide +kernel
theorem dX5_belowOf_5 : decode cX5_belowOf 5 = .ok (.bipush 6, 2) := by decide +kernel
theorem dX5_belowOf_7 : decode cX5_belowOf 7 = .ok (.if_icmp .ge 27, 3) := by decide +kernel
theorem dX5_belowOf_10 : decode cX5_belowOf 10 = .ok (.lload_n 1, 1) := by decide +kernel
theorem dX5_belowOf_11 : decode cX5_belowOf 11 = .ok (.iload_n 0, 1) := by decide +kernel
theorem dX5_belowOf_12 : decode cX5_belowOf 12 = .ok (.iload_n 3, 1) := by decide +kernel
theorem dX5_belowOf_13 : decode cX5_belowOf 13 = .ok (.invokestatic 143, 3) := by decide +kernel
theorem dX5_belowOf_16 : decode cX5_belowOf 16 = .ok (.ifCond .eq 9, 3) := by decide +kernel
theorem dX5_belowOf_19 : decode cX5_belowOf 19 = .ok (.ldc2_w 229, 3) := by decide +kernel
theorem dX5_belowOf_22 : decode cX5_belowOf 22 = .ok (.goto 4, 3) := by decide +kernel
theorem dX5_belowOf_25 : decode cX5_belowOf 25 = .ok (.lconst 1, 1) := by decide +kernel
theorem dX5_belowOf_26 : decode cX5_belowOf 26 = .ok (.lmul, 1) := by decide +kernel
theorem dX5_belowOf_27 : decode cX5_belowOf 27 = .ok (.lstore_n 1, 1) := by decide +kernel
theorem dX5_belowOf_28 : decode cX5_belowOf 28 = .ok (.iinc 3 1, 3) := by decide +kernel
theorem dX5_belowOf_31 : decode cX5_belowOf 31 = .ok (.goto (-27), 3) := by decide +kernel
theorem dX5_belowOf_34 : decode cX5_belowOf 34 = .ok (.lload_n 1, 1) := by decide +kernel
theorem dX5_belowOf_35 : decode cX5_belowOf 35 = .ok (.lreturn, 1) := by decide +kernel
theorem dX5_odds_0 : decode cX5_odds 0 = .ok (.iload_n 1, 1) := by decide +kernel
theorem dX5_odds_1 : decode cX5_odds 1 = .ok (.iconst 0, 1) := by decide +kernel
theorem dX5_odds_2 : decode cX5_odds 2 = .ok (.bipush 99, 2) := by decide +kernel
theorem dX5_odds_4 : decode cX5_odds 4 = .ok (.invokestatic 73, 3) := by decide +kernel
theorem dX5_odds_7 : decode cX5_odds 7 = .ok (.ifCond .eq 13, 3) := by decide +kernel
theorem dX5_odds_10 : decode cX5_odds 10 = .ok (.iload_n 2, 1) := by decide +kernel
theorem dX5_odds_11 : decode cX5_odds 11 = .ok (.iconst 0, 1) := by decide +kernel
theorem dX5_odds_12 : decode cX5_odds 12 = .ok (.bipush 12, 2) := by decide +kernel
theorem dX5_odds_14 : decode cX5_odds 14 = .ok (.invokestatic 73, 3) := by decide +kernel
theorem dX5_odds_17 : decode cX5_odds 17 = .ok (.ifCond .ne 5, 3) := by decide +kernel
theorem dX5_odds_20 : decode cX5_odds 20 = .ok (.iconst (-1), 1) := by decide +kernel
theorem dX5_odds_21 : decode cX5_odds 21 = .ok (.ireturn, 1) := by decide +kernel
theorem dX5_odds_22 : decode cX5_odds 22 = .ok (.aload_n 0, 1) := by decide +kernel
theorem dX5_odds_23 : decode cX5_odds 23 = .ok (.invokevirtual 176, 3) := by decide +kernel
theorem dX5_odds_26 : decode cX5_odds 26 = .ok (.ifCond .ne 6, 3) := by decide +kernel
theorem dX5_odds_29 : decode cX5_odds 29 = .ok (.bipush (-4), 2) := by decide +kernel
theorem dX5_odds_31 : decode cX5_odds 31 = .ok (.ireturn, 1) := by decide +kernel
theorem dX5_odds_32 : decode cX5_odds 32 = .ok (.aload_n 0, 1) := by decide +kernel
theorem dX5_odds_33 : decode cX5_odds 33 = .ok (.invokevirtual 165, 3) := by decide +kernel
theorem dX5_odds_36 : decode cX5_odds 36 = .ok (.istore_n 3, 1) := by decide +kernel
theorem dX5_odds_37 : decode cX5_odds 37 = .ok (.lconst 0, 1) := by decide +kernel
theorem dX5_odds_38 : decode cX5_odds 38 = .ok (.lstore 4, 2) := by decide +kernel
theorem dX5_odds_40 : decode cX5_odds 40 = .ok (.iconst 0, 1) := by decide +kernel
theorem dX5_odds_41 : decode cX5_odds 41 = .ok (.istore 6, 2) := by decide +kernel
theorem dX5_odds_43 : decode cX5_odds 43 = .ok (.iload 6, 2) := by decide +kernel
theorem dX5_odds_45 : decode cX5_odds 45 = .ok (.iload_n 3, 1) := by decide +kernel
theorem dX5_odds_46 : decode cX5_odds 46 = .ok (.if_icmp .gt 39, 3) := by decide +kernel
theorem dX5_odds_49 : decode cX5_odds 49 = .ok (.lload 4, 2) := by decide +kernel
theorem dX5_odds_51 : decode cX5_odds 51 = .ok (.aload_n 0, 1) := by decide +kernel
theorem dX5_odds_52 : decode cX5_odds 52 = .ok (.iload_n 3, 1) := by decide +kernel
theorem dX5_odds_53 : decode cX5_odds 53 = .ok (.iload 6, 2) := by decide +kernel
theorem dX5_odds_55 : decode cX5_odds 55 = .ok (.iconst (-1), 1) := by decide +kernel
theorem dX5_odds_56 : decode cX5_odds 56 = .ok (.ixor, 1) := by decide +kernel
theorem dX5_odds_57 : decode cX5_odds 57 = .ok (.iand, 1) := by decide +kernel
theorem dX5_odds_58 : decode cX5_odds 58 = .ok (.invokevirtual 169, 3) := by decide +kernel
theorem dX5_odds_61 : decode cX5_odds 61 = .ok (.iload_n 1, 1) := by decide +kernel
theorem dX5_odds_62 : decode cX5_odds 62 = .ok (.if_icmp .lt 13, 3) := by decide +kernel
theorem dX5_odds_65 : decode cX5_odds 65 = .ok (.iload_n 3, 1) := by decide +kernel
theorem dX5_odds_66 : decode cX5_odds 66 = .ok (.iload 6, 2) := by decide +kernel
theorem dX5_odds_68 : decode cX5_odds 68 = .ok (.iload_n 2, 1) := by decide +kernel
theorem dX5_odds_69 : decode cX5_odds 69 = .ok (.invokestatic 231, 3) := by decide +kernel
theorem dX5_odds_72 : decode cX5_odds 72 = .ok (.goto 4, 3) := by decide +kernel
theorem dX5_odds_75 : decode cX5_odds 75 = .ok (.lconst 0, 1) := by decide +kernel
theorem dX5_odds_76 : decode cX5_odds 76 = .ok (.ladd, 1) := by decide +kernel
theorem dX5_odds_77 : decode cX5_odds 77 = .ok (.lstore 4, 2) := by decide +kernel
theorem dX5_odds_79 : decode cX5_odds 79 = .ok (.iinc 6 1, 3) := by decide +kernel
theorem dX5_odds_82 : decode cX5_odds 82 = .ok (.goto (-39), 3) := by decide +kernel
theorem dX5_odds_85 : decode cX5_odds 85 = .ok (.aload_n 0, 1) := by decide +kernel
theorem dX5_odds_86 : decode cX5_odds 86 = .ok (.lload 4, 2) := by decide +kernel
theorem dX5_odds_88 : decode cX5_odds 88 = .ok (.iload_n 3, 1) := by decide +kernel
theorem dX5_odds_89 : decode cX5_odds 89 = .ok (.invokestatic 235, 3) := by decide +kernel
theorem dX5_odds_92 : decode cX5_odds 92 = .ok (.invokevirtual 239, 3) := by decide +kernel
theorem dX5_odds_95 : decode cX5_odds 95 = .ok (.ireturn, 1) := by decide +kernel
theorem dX5_mid_0 : decode cX5_mid 0 = .ok (.iload_n 1, 1) := by decide +kernel
theorem dX5_mid_1 : decode cX5_mid 1 = .ok (.iconst 0, 1) := by decide +kernel
theorem dX5_mid_2 : decode cX5_mid 2 = .ok (.bipush 12, 2) := by decide +kernel
theorem dX5_mid_4 : decode cX5_mid 4 = .ok (.invokestatic 73, 3) := by decide +kernel
theorem dX5_mid_7 : decode cX5_mid 7 = .ok (.ifCond .ne 5, 3) := by decide +kernel
theorem dX5_mid_10 : decode cX5_mid 10 = .ok (.iconst (-1), 1) := by decide +kernel
theorem dX5_mid_11 : decode cX5_mid 11 = .ok (.ireturn, 1) := by decide +kernel
theorem dX5_mid_12 : decode cX5_mid 12 = .ok (.aload_n 0, 1) := by decide +kernel
theorem dX5_mid_13 : decode cX5_mid 13 = .ok (.invokevirtual 176, 3) := by decide +kernel
theorem dX5_mid_16 : decode cX5_mid 16 = .ok (.ifCond .ne 6, 3) := by decide +kernel
theorem dX5_mid_19 : decode cX5_mid 19 = .ok (.bipush (-4), 2) := by decide +kernel
theorem dX5_mid_21 : decode cX5_mid 21 = .ok (.ireturn, 1) := by decide +kernel
theorem dX5_mid_22 : decode cX5_mid 22 = .ok (.aload_n 0, 1) := by decide +kernel
theorem dX5_mid_23 : decode cX5_mid 23 = .ok (.invokevirtual 165, 3) := by decide +kernel
theorem dX5_mid_26 : decode cX5_mid 26 = .ok (.istore_n 2, 1) := by decide +kernel
theorem dX5_mid_27 : decode cX5_mid 27 = .ok (.lconst 0, 1) := by decide +kernel
theorem dX5_mid_28 : decode cX5_mid 28 = .ok (.lstore_n 3, 1) := by decide +kernel
theorem dX5_mid_29 : decode cX5_mid 29 = .ok (.iconst 0, 1) := by decide +kernel
theorem dX5_mid_30 : decode cX5_mid 30 = .ok (.istore 5, 2) := by decide +kernel
theorem dX5_mid_32 : decode cX5_mid 32 = .ok (.iload 5, 2) := by decide +kernel
theorem dX5_mid_34 : decode cX5_mid 34 = .ok (.iload_n 2, 1) := by decide +kernel
theorem dX5_mid_35 : decode cX5_mid 35 = .ok (.if_icmp .gt 85, 3) := by decide +kernel
theorem dX5_mid_38 : decode cX5_mid 38 = .ok (.iconst 0, 1) := by decide +kernel
theorem dX5_mid_39 : decode cX5_mid 39 = .ok (.istore 6, 2) := by decide +kernel
theorem dX5_mid_41 : decode cX5_mid 41 = .ok (.iconst 0, 1) := by decide +kernel
theorem dX5_mid_42 : decode cX5_mid 42 = .ok (.istore 7, 2) := by decide +kernel
theorem dX5_mid_44 : decode cX5_mid 44 = .ok (.iload 7, 2) := by decide +kernel
theorem dX5_mid_46 : decode cX5_mid 46 = .ok (.aload_n 0, 1) := by decide +kernel
theorem dX5_mid_47 : decode cX5_mid 47 = .ok (.getfield 25, 3) := by decide +kernel
theorem dX5_mid_50 : decode cX5_mid 50 = .ok (.bipush 7, 2) := by decide +kernel
theorem dX5_mid_52 : decode cX5_mid 52 = .ok (.iaload, 1) := by decide +kernel
theorem dX5_mid_53 : decode cX5_mid 53 = .ok (.if_icmp .ge 47, 3) := by decide +kernel
theorem dX5_mid_56 : decode cX5_mid 56 = .ok (.iload_n 2, 1) := by decide +kernel
theorem dX5_mid_57 : decode cX5_mid 57 = .ok (.iload 5, 2) := by decide +kernel
theorem dX5_mid_59 : decode cX5_mid 59 = .ok (.iconst (-1), 1) := by decide +kernel
theorem dX5_mid_60 : decode cX5_mid 60 = .ok (.ixor, 1) := by decide +kernel
theorem dX5_mid_61 : decode cX5_mid 61 = .ok (.iand, 1) := by decide +kernel
theorem dX5_mid_62 : decode cX5_mid 62 = .ok (.iload 7, 2) := by decide +kernel
theorem dX5_mid_64 : decode cX5_mid 64 = .ok (.invokestatic 143, 3) := by decide +kernel
theorem dX5_mid_67 : decode cX5_mid 67 = .ok (.ifCond .eq 23, 3) := by decide +kernel
theorem dX5_mid_70 : decode cX5_mid 70 = .ok (.aload_n 0, 1) := by decide +kernel
theorem dX5_mid_71 : decode cX5_mid 71 = .ok (.iload 7, 2) := by decide +kernel
theorem dX5_mid_73 : decode cX5_mid 73 = .ok (.invokevirtual 147, 3) := by decide +kernel
theorem dX5_mid_76 : decode cX5_mid 76 = .ok (.iload 6, 2) := by decide +kernel
theorem dX5_mid_78 : decode cX5_mid 78 = .ok (.if_icmp .le 12, 3) := by decide +kernel
theorem dX5_mid_81 : decode cX5_mid 81 = .ok (.aload_n 0, 1) := by decide +kernel
theorem dX5_mid_82 : decode cX5_mid 82 = .ok (.iload 7, 2) := by decide +kernel
theorem dX5_mid_84 : decode cX5_mid 84 = .ok (.invokevirtual 147, 3) := by decide +kernel
theorem dX5_mid_87 : decode cX5_mid 87 = .ok (.goto 5, 3) := by decide +kernel
theorem dX5_mid_90 : decode cX5_mid 90 = .ok (.iload 6, 2) := by decide +kernel
theorem dX5_mid_92 : decode cX5_mid 92 = .ok (.istore 6, 2) := by decide +kernel
theorem dX5_mid_94 : decode cX5_mid 94 = .ok (.iinc 7 1, 3) := by decide +kernel
theorem dX5_mid_97 : decode cX5_mid 97 = .ok (.goto (-53), 3) := by decide +kernel
theorem dX5_mid_100 : decode cX5_mid 100 = .ok (.lload_n 3, 1) := by decide +kernel
theorem dX5_mid_101 : decode cX5_mid 101 = .ok (.iload 6, 2) := by decide +kernel
theorem dX5_mid_103 : decode cX5_mid 103 = .ok (.i2l, 1) := by decide +kernel
theorem dX5_mid_104 : decode cX5_mid 104 = .ok (.iload_n 2, 1) := by decide +kernel
theorem dX5_mid_105 : decode cX5_mid 105 = .ok (.iload 5, 2) := by decide +kernel
theorem dX5_mid_107 : decode cX5_mid 107 = .ok (.iload_n 1, 1) := by decide +kernel
theorem dX5_mid_108 : decode cX5_mid 108 = .ok (.invokestatic 231, 3) := by decide +kernel
theorem dX5_mid_111 : decode cX5_mid 111 = .ok (.lmul, 1) := by decide +kernel
theorem dX5_mid_112 : decode cX5_mid 112 = .ok (.ladd, 1) := by decide +kernel
theorem dX5_mid_113 : decode cX5_mid 113 = .ok (.lstore_n 3, 1) := by decide +kernel
theorem dX5_mid_114 : decode cX5_mid 114 = .ok (.iinc 5 1, 3) := by decide +kernel
theorem dX5_mid_117 : decode cX5_mid 117 = .ok (.goto (-85), 3) := by decide +kernel
theorem dX5_mid_120 : decode cX5_mid 120 = .ok (.aload_n 0, 1) := by decide +kernel
theorem dX5_mid_121 : decode cX5_mid 121 = .ok (.lload_n 3, 1) := by decide +kernel
theorem dX5_mid_122 : decode cX5_mid 122 = .ok (.iload_n 2, 1) := by decide +kernel
theorem dX5_mid_123 : decode cX5_mid 123 = .ok (.invokestatic 235, 3) := by decide +kernel
theorem dX5_mid_126 : decode cX5_mid 126 = .ok (.invokevirtual 239, 3) := by decide +kernel
theorem dX5_mid_129 : decode cX5_mid 129 = .ok (.ireturn, 1) := by decide +kernel
theorem dX5_lots_0 : decode cX5_lots 0 = .ok (.iload_n 1, 1) := by decide +kernel
theorem dX5_lots_1 : decode cX5_lots 1 = .ok (.iconst 1, 1) := by decide +kernel
theorem dX5_lots_2 : decode cX5_lots 2 = .ok (.bipush 20, 2) := by decide +kernel
theorem dX5_lots_4 : decode cX5_lots 4 = .ok (.invokestatic 73, 3) := by decide +kernel
theorem dX5_lots_7 : decode cX5_lots 7 = .ok (.ifCond .eq 13, 3) := by decide +kernel
theorem dX5_lots_10 : decode cX5_lots 10 = .ok (.iload_n 2, 1) := by decide +kernel
theorem dX5_lots_11 : decode cX5_lots 11 = .ok (.iconst 1, 1) := by decide +kernel
theorem dX5_lots_12 : decode cX5_lots 12 = .ok (.ldc 243, 2) := by decide +kernel
theorem dX5_lots_14 : decode cX5_lots 14 = .ok (.invokestatic 73, 3) := by decide +kernel
theorem dX5_lots_17 : decode cX5_lots 17 = .ok (.ifCond .ne 5, 3) := by decide +kernel
theorem dX5_lots_20 : decode cX5_lots 20 = .ok (.iconst (-1), 1) := by decide +kernel
theorem dX5_lots_21 : decode cX5_lots 21 = .ok (.ireturn, 1) := by decide +kernel
theorem dX5_lots_22 : decode cX5_lots 22 = .ok (.aload_n 0, 1) := by decide +kernel
theorem dX5_lots_23 : decode cX5_lots 23 = .ok (.invokevirtual 176, 3) := by decide +kernel
theorem dX5_lots_26 : decode cX5_lots 26 = .ok (.ifCond .ne 6, 3) := by decide +kernel
theorem dX5_lots_29 : decode cX5_lots 29 = .ok (.bipush (-4), 2) := by decide +kernel
theorem dX5_lots_31 : decode cX5_lots 31 = .ok (.ireturn, 1) := by decide +kernel
theorem dX5_lots_32 : decode cX5_lots 32 = .ok (.aload_n 0, 1) := by decide +kernel
