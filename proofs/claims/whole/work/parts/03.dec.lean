theorem dX4_init_0 : decode cX4_init 0 = .ok (.aload_n 0, 1) := by decide +kernel
theorem dX4_init_1 : decode cX4_init 1 = .ok (.invokespecial 1, 3) := by decide +kernel
theorem dX4_init_4 : decode cX4_init 4 = .ok (.aload_n 0, 1) := by decide +kernel
theorem dX4_init_5 : decode cX4_init 5 = .ok (.bipush 6, 2) := by decide +kernel
theorem dX4_init_7 : decode cX4_init 7 = .ok (.anewarray 9, 3) := by decide +kernel
theorem dX4_init_10 : decode cX4_init 10 = .ok (.putfield 11, 3) := by decide +kernel
theorem dX4_init_13 : decode cX4_init 13 = .ok (.aload_n 0, 1) := by decide +kernel
theorem dX4_init_14 : decode cX4_init 14 = .ok (.iconst 4, 1) := by decide +kernel
theorem dX4_init_15 : decode cX4_init 15 = .ok (.anewarray 9, 3) := by decide +kernel
theorem dX4_init_18 : decode cX4_init 18 = .ok (.putfield 15, 3) := by decide +kernel
theorem dX4_init_21 : decode cX4_init 21 = .ok (.aload_n 0, 1) := by decide +kernel
theorem dX4_init_22 : decode cX4_init 22 = .ok (.new 18, 3) := by decide +kernel
theorem dX4_init_25 : decode cX4_init 25 = .ok (.dup, 1) := by decide +kernel
theorem dX4_init_26 : decode cX4_init 26 = .ok (.invokespecial 20, 3) := by decide +kernel
theorem dX4_init_29 : decode cX4_init 29 = .ok (.putfield 21, 3) := by decide +kernel
theorem dX4_init_32 : decode cX4_init 32 = .ok (.aload_n 0, 1) := by decide +kernel
theorem dX4_init_33 : decode cX4_init 33 = .ok (.iconst 3, 1) := by decide +kernel
theorem dX4_init_34 : decode cX4_init 34 = .ok (.anewarray 18, 3) := by decide +kernel
theorem dX4_init_37 : decode cX4_init 37 = .ok (.putfield 25, 3) := by decide +kernel
theorem dX4_init_40 : decode cX4_init 40 = .ok (.aload_n 0, 1) := by decide +kernel
theorem dX4_init_41 : decode cX4_init 41 = .ok (.new 18, 3) := by decide +kernel
theorem dX4_init_44 : decode cX4_init 44 = .ok (.dup, 1) := by decide +kernel
theorem dX4_init_45 : decode cX4_init 45 = .ok (.invokespecial 20, 3) := by decide +kernel
theorem dX4_init_48 : decode cX4_init 48 = .ok (.putfield 29, 3) := by decide +kernel
theorem dX4_init_51 : decode cX4_init 51 = .ok (.aload_n 0, 1) := by decide +kernel
theorem dX4_init_52 : decode cX4_init 52 = .ok (.new 32, 3) := by decide +kernel
theorem dX4_init_55 : decode cX4_init 55 = .ok (.dup, 1) := by decide +kernel
theorem dX4_init_56 : decode cX4_init 56 = .ok (.invokespecial 34, 3) := by decide +kernel
theorem dX4_init_59 : decode cX4_init 59 = .ok (.putfield 35, 3) := by decide +kernel
theorem dX4_init_62 : decode cX4_init 62 = .ok (.aload_n 0, 1) := by decide +kernel
theorem dX4_init_63 : decode cX4_init 63 = .ok (.bipush 56, 2) := by decide +kernel
theorem dX4_init_65 : decode cX4_init 65 = .ok (.newarray .int, 2) := by decide +kernel
theorem dX4_init_67 : decode cX4_init 67 = .ok (.putfield 39, 3) := by decide +kernel
theorem dX4_init_70 : decode cX4_init 70 = .ok (.aload_n 0, 1) := by decide +kernel
theorem dX4_init_71 : decode cX4_init 71 = .ok (.bipush 6, 2) := by decide +kernel
theorem dX4_init_73 : decode cX4_init 73 = .ok (.newarray .int, 2) := by decide +kernel
theorem dX4_init_75 : decode cX4_init 75 = .ok (.putfield 43, 3) := by decide +kernel
theorem dX4_init_78 : decode cX4_init 78 = .ok (.aload_n 0, 1) := by decide +kernel
theorem dX4_init_79 : decode cX4_init 79 = .ok (.iconst 0, 1) := by decide +kernel
theorem dX4_init_80 : decode cX4_init 80 = .ok (.putfield 46, 3) := by decide +kernel
theorem dX4_init_83 : decode cX4_init 83 = .ok (.aload_n 0, 1) := by decide +kernel
theorem dX4_init_84 : decode cX4_init 84 = .ok (.iconst 0, 1) := by decide +kernel
theorem dX4_init_85 : decode cX4_init 85 = .ok (.putfield 50, 3) := by decide +kernel
theorem dX4_init_88 : decode cX4_init 88 = .ok (.aload_n 0, 1) := by decide +kernel
theorem dX4_init_89 : decode cX4_init 89 = .ok (.lconst 0, 1) := by decide +kernel
theorem dX4_init_90 : decode cX4_init 90 = .ok (.putfield 53, 3) := by decide +kernel
theorem dX4_init_93 : decode cX4_init 93 = .ok (.aload_n 0, 1) := by decide +kernel
theorem dX4_init_94 : decode cX4_init 94 = .ok (.lconst 1, 1) := by decide +kernel
theorem dX4_init_95 : decode cX4_init 95 = .ok (.putfield 57, 3) := by decide +kernel
theorem dX4_init_98 : decode cX4_init 98 = .ok (.iconst 0, 1) := by decide +kernel
theorem dX4_init_99 : decode cX4_init 99 = .ok (.istore_n 1, 1) := by decide +kernel
theorem dX4_init_100 : decode cX4_init 100 = .ok (.iload_n 1, 1) := by decide +kernel
theorem dX4_init_101 : decode cX4_init 101 = .ok (.bipush 6, 2) := by decide +kernel
theorem dX4_init_103 : decode cX4_init 103 = .ok (.if_icmp .ge 26, 3) := by decide +kernel
theorem dX4_init_106 : decode cX4_init 106 = .ok (.aload_n 0, 1) := by decide +kernel
theorem dX4_init_107 : decode cX4_init 107 = .ok (.getfield 11, 3) := by decide +kernel
theorem dX4_init_110 : decode cX4_init 110 = .ok (.iload_n 1, 1) := by decide +kernel
theorem dX4_init_111 : decode cX4_init 111 = .ok (.new 9, 3) := by decide +kernel
theorem dX4_init_114 : decode cX4_init 114 = .ok (.dup, 1) := by decide +kernel
theorem dX4_init_115 : decode cX4_init 115 = .ok (.bipush 40, 2) := by decide +kernel
theorem dX4_init_117 : decode cX4_init 117 = .ok (.newarray .int, 2) := by decide +kernel
theorem dX4_init_119 : decode cX4_init 119 = .ok (.invokespecial 60, 3) := by decide +kernel
theorem dX4_init_122 : decode cX4_init 122 = .ok (.aastore, 1) := by decide +kernel
theorem dX4_init_123 : decode cX4_init 123 = .ok (.iinc 1 1, 3) := by decide +kernel
theorem dX4_init_126 : decode cX4_init 126 = .ok (.goto (-26), 3) := by decide +kernel
theorem dX4_init_129 : decode cX4_init 129 = .ok (.iconst 0, 1) := by decide +kernel
theorem dX4_init_130 : decode cX4_init 130 = .ok (.istore_n 1, 1) := by decide +kernel
theorem dX4_init_131 : decode cX4_init 131 = .ok (.iload_n 1, 1) := by decide +kernel
theorem dX4_init_132 : decode cX4_init 132 = .ok (.iconst 4, 1) := by decide +kernel
theorem dX4_init_133 : decode cX4_init 133 = .ok (.if_icmp .ge 26, 3) := by decide +kernel
theorem dX4_init_136 : decode cX4_init 136 = .ok (.aload_n 0, 1) := by decide +kernel
theorem dX4_init_137 : decode cX4_init 137 = .ok (.getfield 15, 3) := by decide +kernel
theorem dX4_init_140 : decode cX4_init 140 = .ok (.iload_n 1, 1) := by decide +kernel
theorem dX4_init_141 : decode cX4_init 141 = .ok (.new 9, 3) := by decide +kernel
theorem dX4_init_144 : decode cX4_init 144 = .ok (.dup, 1) := by decide +kernel
theorem dX4_init_145 : decode cX4_init 145 = .ok (.bipush 60, 2) := by decide +kernel
theorem dX4_init_147 : decode cX4_init 147 = .ok (.newarray .int, 2) := by decide +kernel
theorem dX4_init_149 : decode cX4_init 149 = .ok (.invokespecial 60, 3) := by decide +kernel
theorem dX4_init_152 : decode cX4_init 152 = .ok (.aastore, 1) := by decide +kernel
theorem dX4_init_153 : decode cX4_init 153 = .ok (.iinc 1 1, 3) := by decide +kernel
theorem dX4_init_156 : decode cX4_init 156 = .ok (.goto (-25), 3) := by decide +kernel
theorem dX4_init_159 : decode cX4_init 159 = .ok (.iconst 0, 1) := by decide +kernel
theorem dX4_init_160 : decode cX4_init 160 = .ok (.istore_n 1, 1) := by decide +kernel
theorem dX4_init_161 : decode cX4_init 161 = .ok (.iload_n 1, 1) := by decide +kernel
theorem dX4_init_162 : decode cX4_init 162 = .ok (.iconst 3, 1) := by decide +kernel
theorem dX4_init_163 : decode cX4_init 163 = .ok (.if_icmp .ge 22, 3) := by decide +kernel
theorem dX4_init_166 : decode cX4_init 166 = .ok (.aload_n 0, 1) := by decide +kernel
theorem dX4_init_167 : decode cX4_init 167 = .ok (.getfield 25, 3) := by decide +kernel
theorem dX4_init_170 : decode cX4_init 170 = .ok (.iload_n 1, 1) := by decide +kernel
theorem dX4_init_171 : decode cX4_init 171 = .ok (.new 18, 3) := by decide +kernel
theorem dX4_init_174 : decode cX4_init 174 = .ok (.dup, 1) := by decide +kernel
theorem dX4_init_175 : decode cX4_init 175 = .ok (.invokespecial 20, 3) := by decide +kernel
theorem dX4_init_178 : decode cX4_init 178 = .ok (.aastore, 1) := by decide +kernel
theorem dX4_init_179 : decode cX4_init 179 = .ok (.iinc 1 1, 3) := by decide +kernel
theorem dX4_init_182 : decode cX4_init 182 = .ok (.goto (-21), 3) := by decide +kernel
theorem dX4_init_185 : decode cX4_init 185 = .ok (.return_, 1) := by decide +kernel
theorem dX4_row_0 : decode cX4_row 0 = .ok (.iload_n 1, 1) := by decide +kernel
theorem dX4_row_1 : decode cX4_row 1 = .ok (.invokestatic 63, 3) := by decide +kernel
theorem dX4_row_4 : decode cX4_row 4 = .ok (.ifCond .eq 9, 3) := by decide +kernel
theorem dX4_row_7 : decode cX4_row 7 = .ok (.iload_n 2, 1) := by decide +kernel
theorem dX4_row_8 : decode cX4_row 8 = .ok (.bipush 40, 2) := by decide +kernel
theorem dX4_row_10 : decode cX4_row 10 = .ok (.if_icmp .le 5, 3) := by decide +kernel
theorem dX4_row_13 : decode cX4_row 13 = .ok (.iconst (-1), 1) := by decide +kernel
theorem dX4_row_14 : decode cX4_row 14 = .ok (.ireturn, 1) := by decide +kernel
theorem dX4_row_15 : decode cX4_row 15 = .ok (.iload_n 2, 1) := by decide +kernel
theorem dX4_row_16 : decode cX4_row 16 = .ok (.ifCond .ge 9, 3) := by decide +kernel
theorem dX4_row_19 : decode cX4_row 19 = .ok (.aload_n 0, 1) := by decide +kernel
theorem dX4_row_20 : decode cX4_row 20 = .ok (.iconst 5, 1) := by decide +kernel
theorem dX4_row_21 : decode cX4_row 21 = .ok (.invokevirtual 67, 3) := by decide +kernel
theorem dX4_row_24 : decode cX4_row 24 = .ok (.ireturn, 1) := by decide +kernel
theorem dX4_row_25 : decode cX4_row 25 = .ok (.aload_n 0, 1) := by decide +kernel
theorem dX4_row_26 : decode cX4_row 26 = .ok (.getfield 11, 3) := by decide +kernel
theorem dX4_row_29 : decode cX4_row 29 = .ok (.iload_n 1, 1) := by decide +kernel
theorem dX4_row_30 : decode cX4_row 30 = .ok (.aaload, 1) := by decide +kernel
theorem dX4_row_31 : decode cX4_row 31 = .ok (.iload_n 2, 1) := by decide +kernel
theorem dX4_row_32 : decode cX4_row 32 = .ok (.iconst 0, 1) := by decide +kernel
theorem dX4_row_33 : decode cX4_row 33 = .ok (.invokevirtual 71, 3) := by decide +kernel
theorem dX4_row_36 : decode cX4_row 36 = .ok (.iload_n 2, 1) := by decide +kernel
theorem dX4_row_37 : decode cX4_row 37 = .ok (.ireturn, 1) := by decide +kernel
theorem dX4_lay_0 : decode cX4_lay 0 = .ok (.aload_n 0, 1) := by decide +kernel
theorem dX4_lay_1 : decode cX4_lay 1 = .ok (.aload_n 0, 1) := by decide +kernel
theorem dX4_lay_2 : decode cX4_lay 2 = .ok (.getfield 11, 3) := by decide +kernel
theorem dX4_lay_5 : decode cX4_lay 5 = .ok (.iload_n 1, 1) := by decide +kernel
theorem dX4_lay_6 : decode cX4_lay 6 = .ok (.iload_n 2, 1) := by decide +kernel
theorem dX4_lay_7 : decode cX4_lay 7 = .ok (.invokevirtual 75, 3) := by decide +kernel
theorem dX4_lay_10 : decode cX4_lay 10 = .ok (.istore 4, 2) := by decide +kernel
theorem dX4_lay_12 : decode cX4_lay 12 = .ok (.iload 4, 2) := by decide +kernel
theorem dX4_lay_14 : decode cX4_lay 14 = .ok (.ifCond .eq 6, 3) := by decide +kernel
theorem dX4_lay_17 : decode cX4_lay 17 = .ok (.iload 4, 2) := by decide +kernel
theorem dX4_lay_19 : decode cX4_lay 19 = .ok (.ireturn, 1) := by decide +kernel
theorem dX4_lay_20 : decode cX4_lay 20 = .ok (.aload_n 0, 1) := by decide +kernel
theorem dX4_lay_21 : decode cX4_lay 21 = .ok (.aload_n 0, 1) := by decide +kernel
theorem dX4_lay_22 : decode cX4_lay 22 = .ok (.getfield 11, 3) := by decide +kernel
theorem dX4_lay_25 : decode cX4_lay 25 = .ok (.iload_n 1, 1) := by decide +kernel
theorem dX4_lay_26 : decode cX4_lay 26 = .ok (.aaload, 1) := by decide +kernel
theorem dX4_lay_27 : decode cX4_lay 27 = .ok (.getfield 79, 3) := by decide +kernel
theorem dX4_lay_30 : decode cX4_lay 30 = .ok (.iload_n 2, 1) := by decide +kernel
theorem dX4_lay_31 : decode cX4_lay 31 = .ok (.iaload, 1) := by decide +kernel
theorem dX4_lay_32 : decode cX4_lay 32 = .ok (.putfield 50, 3) := by decide +kernel
theorem dX4_lay_35 : decode cX4_lay 35 = .ok (.aload_n 0, 1) := by decide +kernel
theorem dX4_lay_36 : decode cX4_lay 36 = .ok (.getfield 11, 3) := by decide +kernel
theorem dX4_lay_39 : decode cX4_lay 39 = .ok (.iload_n 1, 1) := by decide +kernel
theorem dX4_lay_40 : decode cX4_lay 40 = .ok (.aaload, 1) := by decide +kernel
theorem dX4_lay_41 : decode cX4_lay 41 = .ok (.getfield 79, 3) := by decide +kernel
theorem dX4_lay_44 : decode cX4_lay 44 = .ok (.iload_n 2, 1) := by decide +kernel
theorem dX4_lay_45 : decode cX4_lay 45 = .ok (.iload_n 3, 1) := by decide +kernel
theorem dX4_lay_46 : decode cX4_lay 46 = .ok (.iastore, 1) := by decide +kernel
theorem dX4_lay_47 : decode cX4_lay 47 = .ok (.iconst 1, 1) := by decide +kernel
theorem dX4_lay_48 : decode cX4_lay 48 = .ok (.ireturn, 1) := by decide +kernel
theorem dX4_at_0 : decode cX4_at 0 = .ok (.aload_n 0, 1) := by decide +kernel
theorem dX4_at_1 : decode cX4_at 1 = .ok (.aload_n 0, 1) := by decide +kernel
theorem dX4_at_2 : decode cX4_at 2 = .ok (.getfield 11, 3) := by decide +kernel
theorem dX4_at_5 : decode cX4_at 5 = .ok (.iload_n 1, 1) := by decide +kernel
theorem dX4_at_6 : decode cX4_at 6 = .ok (.iload_n 2, 1) := by decide +kernel
theorem dX4_at_7 : decode cX4_at 7 = .ok (.invokevirtual 75, 3) := by decide +kernel
theorem dX4_at_10 : decode cX4_at 10 = .ok (.istore_n 3, 1) := by decide +kernel
theorem dX4_at_11 : decode cX4_at 11 = .ok (.iload_n 3, 1) := by decide +kernel
theorem dX4_at_12 : decode cX4_at 12 = .ok (.ifCond .eq 5, 3) := by decide +kernel
theorem dX4_at_15 : decode cX4_at 15 = .ok (.iload_n 3, 1) := by decide +kernel
theorem dX4_at_16 : decode cX4_at 16 = .ok (.ireturn, 1) := by decide +kernel
theorem dX4_at_17 : decode cX4_at 17 = .ok (.aload_n 0, 1) := by decide +kernel
theorem dX4_at_18 : decode cX4_at 18 = .ok (.aload_n 0, 1) := by decide +kernel
theorem dX4_at_19 : decode cX4_at 19 = .ok (.getfield 11, 3) := by decide +kernel
theorem dX4_at_22 : decode cX4_at 22 = .ok (.iload_n 1, 1) := by decide +kernel
theorem dX4_at_23 : decode cX4_at 23 = .ok (.aaload, 1) := by decide +kernel
theorem dX4_at_24 : decode cX4_at 24 = .ok (.getfield 79, 3) := by decide +kernel
theorem dX4_at_27 : decode cX4_at 27 = .ok (.iload_n 2, 1) := by decide +kernel
theorem dX4_at_28 : decode cX4_at 28 = .ok (.iaload, 1) := by decide +kernel
theorem dX4_at_29 : decode cX4_at 29 = .ok (.putfield 50, 3) := by decide +kernel
theorem dX4_at_32 : decode cX4_at 32 = .ok (.iconst 1, 1) := by decide +kernel
theorem dX4_at_33 : decode cX4_at 33 = .ok (.ireturn, 1) := by decide +kernel
theorem dX4_tear_0 : decode cX4_tear 0 = .ok (.aload_n 0, 1) := by decide +kernel
theorem dX4_tear_1 : decode cX4_tear 1 = .ok (.aload_n 0, 1) := by decide +kernel
theorem dX4_tear_2 : decode cX4_tear 2 = .ok (.getfield 11, 3) := by decide +kernel
theorem dX4_tear_5 : decode cX4_tear 5 = .ok (.iload_n 1, 1) := by decide +kernel
theorem dX4_tear_6 : decode cX4_tear 6 = .ok (.invokevirtual 82, 3) := by decide +kernel
theorem dX4_tear_9 : decode cX4_tear 9 = .ok (.istore_n 2, 1) := by decide +kernel
theorem dX4_tear_10 : decode cX4_tear 10 = .ok (.iload_n 2, 1) := by decide +kernel
theorem dX4_tear_11 : decode cX4_tear 11 = .ok (.ifCond .eq 5, 3) := by decide +kernel
theorem dX4_tear_14 : decode cX4_tear 14 = .ok (.iload_n 2, 1) := by decide +kernel
theorem dX4_tear_15 : decode cX4_tear 15 = .ok (.ireturn, 1) := by decide +kernel
theorem dX4_tear_16 : decode cX4_tear 16 = .ok (.aload_n 0, 1) := by decide +kernel
theorem dX4_tear_17 : decode cX4_tear 17 = .ok (.getfield 11, 3) := by decide +kernel
theorem dX4_tear_20 : decode cX4_tear 20 = .ok (.iload_n 1, 1) := by decide +kernel
theorem dX4_tear_21 : decode cX4_tear 21 = .ok (.aaload, 1) := by decide +kernel
theorem dX4_tear_22 : decode cX4_tear 22 = .ok (.iconst (-1), 1) := by decide +kernel
theorem dX4_tear_23 : decode cX4_tear 23 = .ok (.putfield 86, 3) := by decide +kernel
theorem dX4_tear_26 : decode cX4_tear 26 = .ok (.iconst 1, 1) := by decide +kernel
theorem dX4_tear_27 : decode cX4_tear 27 = .ok (.ireturn, 1) := by decide +kernel
theorem dX4_copy_0 : decode cX4_copy 0 = .ok (.iload_n 1, 1) := by decide +kernel
theorem dX4_copy_1 : decode cX4_copy 1 = .ok (.invokestatic 63, 3) := by decide +kernel
theorem dX4_copy_4 : decode cX4_copy 4 = .ok (.ifCond .eq 10, 3) := by decide +kernel
theorem dX4_copy_7 : decode cX4_copy 7 = .ok (.iload_n 3, 1) := by decide +kernel
theorem dX4_copy_8 : decode cX4_copy 8 = .ok (.invokestatic 63, 3) := by decide +kernel
theorem dX4_copy_11 : decode cX4_copy 11 = .ok (.ifCond .ne 5, 3) := by decide +kernel
theorem dX4_copy_14 : decode cX4_copy 14 = .ok (.iconst (-1), 1) := by decide +kernel
theorem dX4_copy_15 : decode cX4_copy 15 = .ok (.ireturn, 1) := by decide +kernel
theorem dX4_copy_16 : decode cX4_copy 16 = .ok (.iload 5, 2) := by decide +kernel
theorem dX4_copy_18 : decode cX4_copy 18 = .ok (.ifCond .ge 9, 3) := by decide +kernel
theorem dX4_copy_21 : decode cX4_copy 21 = .ok (.aload_n 0, 1) := by decide +kernel
theorem dX4_copy_22 : decode cX4_copy 22 = .ok (.iconst 5, 1) := by decide +kernel
theorem dX4_copy_23 : decode cX4_copy 23 = .ok (.invokevirtual 67, 3) := by decide +kernel
theorem dX4_copy_26 : decode cX4_copy 26 = .ok (.ireturn, 1) := by decide +kernel
theorem dX4_copy_27 : decode cX4_copy 27 = .ok (.aload_n 0, 1) := by decide +kernel
theorem dX4_copy_28 : decode cX4_copy 28 = .ok (.getfield 11, 3) := by decide +kernel
theorem dX4_copy_31 : decode cX4_copy 31 = .ok (.iload_n 1, 1) := by decide +kernel
theorem dX4_copy_32 : decode cX4_copy 32 = .ok (.aaload, 1) := by decide +kernel
theorem dX4_copy_33 : decode cX4_copy 33 = .ok (.invokevirtual 89, 3) := by decide +kernel
theorem dX4_copy_36 : decode cX4_copy 36 = .ok (.ifCond .ne 15, 3) := by decide +kernel
theorem dX4_copy_39 : decode cX4_copy 39 = .ok (.aload_n 0, 1) := by decide +kernel
theorem dX4_copy_40 : decode cX4_copy 40 = .ok (.getfield 11, 3) := by decide +kernel
theorem dX4_copy_43 : decode cX4_copy 43 = .ok (.iload_n 3, 1) := by decide +kernel
theorem dX4_copy_44 : decode cX4_copy 44 = .ok (.aaload, 1) := by decide +kernel
theorem dX4_copy_45 : decode cX4_copy 45 = .ok (.invokevirtual 89, 3) := by decide +kernel
theorem dX4_copy_48 : decode cX4_copy 48 = .ok (.ifCond .eq 9, 3) := by decide +kernel
theorem dX4_copy_51 : decode cX4_copy 51 = .ok (.aload_n 0, 1) := by decide +kernel
theorem dX4_copy_52 : decode cX4_copy 52 = .ok (.iconst 1, 1) := by decide +kernel
theorem dX4_copy_53 : decode cX4_copy 53 = .ok (.invokevirtual 67, 3) := by decide +kernel
theorem dX4_copy_56 : decode cX4_copy 56 = .ok (.ireturn, 1) := by decide +kernel
theorem dX4_copy_57 : decode cX4_copy 57 = .ok (.aload_n 0, 1) := by decide +kernel
theorem dX4_copy_58 : decode cX4_copy 58 = .ok (.getfield 11, 3) := by decide +kernel
theorem dX4_copy_61 : decode cX4_copy 61 = .ok (.iload_n 1, 1) := by decide +kernel
theorem dX4_copy_62 : decode cX4_copy 62 = .ok (.aaload, 1) := by decide +kernel
theorem dX4_copy_63 : decode cX4_copy 63 = .ok (.iload_n 2, 1) := by decide +kernel
theorem dX4_copy_64 : decode cX4_copy 64 = .ok (.iload 5, 2) := by decide +kernel
theorem dX4_copy_66 : decode cX4_copy 66 = .ok (.invokevirtual 93, 3) := by decide +kernel
theorem dX4_copy_69 : decode cX4_copy 69 = .ok (.ifCond .eq 19, 3) := by decide +kernel
theorem dX4_copy_72 : decode cX4_copy 72 = .ok (.aload_n 0, 1) := by decide +kernel
theorem dX4_copy_73 : decode cX4_copy 73 = .ok (.getfield 11, 3) := by decide +kernel
theorem dX4_copy_76 : decode cX4_copy 76 = .ok (.iload_n 3, 1) := by decide +kernel
theorem dX4_copy_77 : decode cX4_copy 77 = .ok (.aaload, 1) := by decide +kernel
theorem dX4_copy_78 : decode cX4_copy 78 = .ok (.iload 4, 2) := by decide +kernel
theorem dX4_copy_80 : decode cX4_copy 80 = .ok (.iload 5, 2) := by decide +kernel
theorem dX4_copy_82 : decode cX4_copy 82 = .ok (.invokevirtual 93, 3) := by decide +kernel
theorem dX4_copy_85 : decode cX4_copy 85 = .ok (.ifCond .ne 9, 3) := by decide +kernel
theorem dX4_copy_88 : decode cX4_copy 88 = .ok (.aload_n 0, 1) := by decide +kernel
theorem dX4_copy_89 : decode cX4_copy 89 = .ok (.iconst 2, 1) := by decide +kernel
theorem dX4_copy_90 : decode cX4_copy 90 = .ok (.invokevirtual 67, 3) := by decide +kernel
theorem dX4_copy_93 : decode cX4_copy 93 = .ok (.ireturn, 1) := by decide +kernel
theorem dX4_copy_94 : decode cX4_copy 94 = .ok (.aload_n 0, 1) := by decide +kernel
theorem dX4_copy_95 : decode cX4_copy 95 = .ok (.getfield 11, 3) := by decide +kernel
theorem dX4_copy_98 : decode cX4_copy 98 = .ok (.iload_n 1, 1) := by decide +kernel
theorem dX4_copy_99 : decode cX4_copy 99 = .ok (.aaload, 1) := by decide +kernel
theorem dX4_copy_100 : decode cX4_copy 100 = .ok (.getfield 79, 3) := by decide +kernel
theorem dX4_copy_103 : decode cX4_copy 103 = .ok (.iload_n 2, 1) := by decide +kernel
theorem dX4_copy_104 : decode cX4_copy 104 = .ok (.aload_n 0, 1) := by decide +kernel
theorem dX4_copy_105 : decode cX4_copy 105 = .ok (.getfield 11, 3) := by decide +kernel
theorem dX4_copy_108 : decode cX4_copy 108 = .ok (.iload_n 3, 1) := by decide +kernel
theorem dX4_copy_109 : decode cX4_copy 109 = .ok (.aaload, 1) := by decide +kernel
theorem dX4_copy_110 : decode cX4_copy 110 = .ok (.getfield 79, 3) := by decide +kernel
theorem dX4_copy_113 : decode cX4_copy 113 = .ok (.iload 4, 2) := by decide +kernel
theorem dX4_copy_115 : decode cX4_copy 115 = .ok (.iload 5, 2) := by decide +kernel
theorem dX4_copy_117 : decode cX4_copy 117 = .ok (.invokestatic 97, 3) := by decide +kernel
theorem dX4_copy_120 : decode cX4_copy 120 = .ok (.iconst 1, 1) := by decide +kernel
theorem dX4_copy_121 : decode cX4_copy 121 = .ok (.ireturn, 1) := by decide +kernel
theorem dX4_mean_0 : decode cX4_mean 0 = .ok (.aload_n 0, 1) := by decide +kernel
theorem dX4_mean_1 : decode cX4_mean 1 = .ok (.aload_n 0, 1) := by decide +kernel
theorem dX4_mean_2 : decode cX4_mean 2 = .ok (.getfield 11, 3) := by decide +kernel
theorem dX4_mean_5 : decode cX4_mean 5 = .ok (.iload_n 1, 1) := by decide +kernel
theorem dX4_mean_6 : decode cX4_mean 6 = .ok (.invokevirtual 82, 3) := by decide +kernel
theorem dX4_mean_9 : decode cX4_mean 9 = .ok (.istore_n 2, 1) := by decide +kernel
theorem dX4_mean_10 : decode cX4_mean 10 = .ok (.iload_n 2, 1) := by decide +kernel
theorem dX4_mean_11 : decode cX4_mean 11 = .ok (.ifCond .eq 5, 3) := by decide +kernel
theorem dX4_mean_14 : decode cX4_mean 14 = .ok (.iload_n 2, 1) := by decide +kernel
theorem dX4_mean_15 : decode cX4_mean 15 = .ok (.ireturn, 1) := by decide +kernel
theorem dX4_mean_16 : decode cX4_mean 16 = .ok (.aload_n 0, 1) := by decide +kernel
theorem dX4_mean_17 : decode cX4_mean 17 = .ok (.getfield 11, 3) := by decide +kernel
theorem dX4_mean_20 : decode cX4_mean 20 = .ok (.iload_n 1, 1) := by decide +kernel
theorem dX4_mean_21 : decode cX4_mean 21 = .ok (.aaload, 1) := by decide +kernel
theorem dX4_mean_22 : decode cX4_mean 22 = .ok (.astore_n 3, 1) := by decide +kernel
theorem dX4_mean_23 : decode cX4_mean 23 = .ok (.aload_n 3, 1) := by decide +kernel
theorem dX4_mean_24 : decode cX4_mean 24 = .ok (.getfield 86, 3) := by decide +kernel
theorem dX4_mean_27 : decode cX4_mean 27 = .ok (.ifCond .ne 9, 3) := by decide +kernel
theorem dX4_mean_30 : decode cX4_mean 30 = .ok (.aload_n 0, 1) := by decide +kernel
theorem dX4_mean_31 : decode cX4_mean 31 = .ok (.iconst 4, 1) := by decide +kernel
theorem dX4_mean_32 : decode cX4_mean 32 = .ok (.invokevirtual 67, 3) := by decide +kernel
theorem dX4_mean_35 : decode cX4_mean 35 = .ok (.ireturn, 1) := by decide +kernel
theorem dX4_mean_36 : decode cX4_mean 36 = .ok (.aload_n 0, 1) := by decide +kernel
theorem dX4_mean_37 : decode cX4_mean 37 = .ok (.aload_n 3, 1) := by decide +kernel
theorem dX4_mean_38 : decode cX4_mean 38 = .ok (.invokevirtual 103, 3) := by decide +kernel
theorem dX4_mean_41 : decode cX4_mean 41 = .ok (.aload_n 3, 1) := by decide +kernel
theorem dX4_mean_42 : decode cX4_mean 42 = .ok (.getfield 86, 3) := by decide +kernel
theorem dX4_mean_45 : decode cX4_mean 45 = .ok (.i2l, 1) := by decide +kernel
theorem dX4_mean_46 : decode cX4_mean 46 = .ok (.ldiv, 1) := by decide +kernel
theorem dX4_mean_47 : decode cX4_mean 47 = .ok (.l2i, 1) := by decide +kernel
theorem dX4_mean_48 : decode cX4_mean 48 = .ok (.putfield 50, 3) := by decide +kernel
theorem dX4_mean_51 : decode cX4_mean 51 = .ok (.iconst 1, 1) := by decide +kernel
theorem dX4_mean_52 : decode cX4_mean 52 = .ok (.ireturn, 1) := by decide +kernel
theorem dX4_text_0 : decode cX4_text 0 = .ok (.iload_n 1, 1) := by decide +kernel
theorem dX4_text_1 : decode cX4_text 1 = .ok (.invokestatic 107, 3) := by decide +kernel
theorem dX4_text_4 : decode cX4_text 4 = .ok (.ifCond .eq 9, 3) := by decide +kernel
theorem dX4_text_7 : decode cX4_text 7 = .ok (.iload_n 2, 1) := by decide +kernel
theorem dX4_text_8 : decode cX4_text 8 = .ok (.bipush 60, 2) := by decide +kernel
theorem dX4_text_10 : decode cX4_text 10 = .ok (.if_icmp .le 5, 3) := by decide +kernel
theorem dX4_text_13 : decode cX4_text 13 = .ok (.iconst (-1), 1) := by decide +kernel
theorem dX4_text_14 : decode cX4_text 14 = .ok (.ireturn, 1) := by decide +kernel
theorem dX4_text_15 : decode cX4_text 15 = .ok (.iload_n 2, 1) := by decide +kernel
theorem dX4_text_16 : decode cX4_text 16 = .ok (.ifCond .ge 9, 3) := by decide +kernel
theorem dX4_text_19 : decode cX4_text 19 = .ok (.aload_n 0, 1) := by decide +kernel
theorem dX4_text_20 : decode cX4_text 20 = .ok (.iconst 5, 1) := by decide +kernel
theorem dX4_text_21 : decode cX4_text 21 = .ok (.invokevirtual 67, 3) := by decide +kernel
theorem dX4_text_24 : decode cX4_text 24 = .ok (.ireturn, 1) := by decide +kernel
theorem dX4_text_25 : decode cX4_text 25 = .ok (.aload_n 0, 1) := by decide +kernel
theorem dX4_text_26 : decode cX4_text 26 = .ok (.getfield 15, 3) := by decide +kernel
theorem dX4_text_29 : decode cX4_text 29 = .ok (.iload_n 1, 1) := by decide +kernel
theorem dX4_text_30 : decode cX4_text 30 = .ok (.aaload, 1) := by decide +kernel
theorem dX4_text_31 : decode cX4_text 31 = .ok (.iload_n 2, 1) := by decide +kernel
theorem dX4_text_32 : decode cX4_text 32 = .ok (.bipush 32, 2) := by decide +kernel
theorem dX4_text_34 : decode cX4_text 34 = .ok (.invokevirtual 71, 3) := by decide +kernel
theorem dX4_text_37 : decode cX4_text 37 = .ok (.iload_n 2, 1) := by decide +kernel
theorem dX4_text_38 : decode cX4_text 38 = .ok (.ireturn, 1) := by decide +kernel
theorem dX4_put_0 : decode cX4_put 0 = .ok (.aload_n 0, 1) := by decide +kernel
theorem dX4_put_1 : decode cX4_put 1 = .ok (.aload_n 0, 1) := by decide +kernel
theorem dX4_put_2 : decode cX4_put 2 = .ok (.getfield 15, 3) := by decide +kernel
theorem dX4_put_5 : decode cX4_put 5 = .ok (.iload_n 1, 1) := by decide +kernel
theorem dX4_put_6 : decode cX4_put 6 = .ok (.iload_n 2, 1) := by decide +kernel
theorem dX4_put_7 : decode cX4_put 7 = .ok (.invokevirtual 75, 3) := by decide +kernel
theorem dX4_put_10 : decode cX4_put 10 = .ok (.istore 4, 2) := by decide +kernel
theorem dX4_put_12 : decode cX4_put 12 = .ok (.iload 4, 2) := by decide +kernel
theorem dX4_put_14 : decode cX4_put 14 = .ok (.ifCond .eq 6, 3) := by decide +kernel
theorem dX4_put_17 : decode cX4_put 17 = .ok (.iload 4, 2) := by decide +kernel
theorem dX4_put_19 : decode cX4_put 19 = .ok (.ireturn, 1) := by decide +kernel
theorem dX4_put_20 : decode cX4_put 20 = .ok (.aload_n 0, 1) := by decide +kernel
theorem dX4_put_21 : decode cX4_put 21 = .ok (.getfield 15, 3) := by decide +kernel
theorem dX4_put_24 : decode cX4_put 24 = .ok (.iload_n 1, 1) := by decide +kernel
theorem dX4_put_25 : decode cX4_put 25 = .ok (.aaload, 1) := by decide +kernel
theorem dX4_put_26 : decode cX4_put 26 = .ok (.getfield 79, 3) := by decide +kernel
theorem dX4_put_29 : decode cX4_put 29 = .ok (.iload_n 2, 1) := by decide +kernel
theorem dX4_put_30 : decode cX4_put 30 = .ok (.iaload, 1) := by decide +kernel
theorem dX4_put_31 : decode cX4_put 31 = .ok (.istore 5, 2) := by decide +kernel
theorem dX4_put_33 : decode cX4_put 33 = .ok (.aload_n 0, 1) := by decide +kernel
theorem dX4_put_34 : decode cX4_put 34 = .ok (.getfield 15, 3) := by decide +kernel
theorem dX4_put_37 : decode cX4_put 37 = .ok (.iload_n 1, 1) := by decide +kernel
theorem dX4_put_38 : decode cX4_put 38 = .ok (.aaload, 1) := by decide +kernel
theorem dX4_put_39 : decode cX4_put 39 = .ok (.getfield 79, 3) := by decide +kernel
theorem dX4_put_42 : decode cX4_put 42 = .ok (.iload_n 2, 1) := by decide +kernel
theorem dX4_put_43 : decode cX4_put 43 = .ok (.iload_n 3, 1) := by decide +kernel
theorem dX4_put_44 : decode cX4_put 44 = .ok (.i2b, 1) := by decide +kernel
theorem dX4_put_45 : decode cX4_put 45 = .ok (.iastore, 1) := by decide +kernel
theorem dX4_put_46 : decode cX4_put 46 = .ok (.iload 5, 2) := by decide +kernel
theorem dX4_put_48 : decode cX4_put 48 = .ok (.sipush 1000, 3) := by decide +kernel
theorem dX4_put_51 : decode cX4_put 51 = .ok (.iadd, 1) := by decide +kernel
theorem dX4_put_52 : decode cX4_put 52 = .ok (.ireturn, 1) := by decide +kernel
theorem dX4_fault_0 : decode cX4_fault 0 = .ok (.aload_n 0, 1) := by decide +kernel
theorem dX4_fault_1 : decode cX4_fault 1 = .ok (.aload_n 0, 1) := by decide +kernel
theorem dX4_fault_2 : decode cX4_fault 2 = .ok (.getfield 15, 3) := by decide +kernel
theorem dX4_fault_5 : decode cX4_fault 5 = .ok (.iload_n 1, 1) := by decide +kernel
theorem dX4_fault_6 : decode cX4_fault 6 = .ok (.invokevirtual 82, 3) := by decide +kernel
theorem dX4_fault_9 : decode cX4_fault 9 = .ok (.istore_n 2, 1) := by decide +kernel
theorem dX4_fault_10 : decode cX4_fault 10 = .ok (.iload_n 2, 1) := by decide +kernel
theorem dX4_fault_11 : decode cX4_fault 11 = .ok (.ifCond .eq 5, 3) := by decide +kernel
theorem dX4_fault_14 : decode cX4_fault 14 = .ok (.iload_n 2, 1) := by decide +kernel
theorem dX4_fault_15 : decode cX4_fault 15 = .ok (.ireturn, 1) := by decide +kernel
theorem dX4_fault_16 : decode cX4_fault 16 = .ok (.aload_n 0, 1) := by decide +kernel
theorem dX4_fault_17 : decode cX4_fault 17 = .ok (.getfield 35, 3) := by decide +kernel
theorem dX4_fault_20 : decode cX4_fault 20 = .ok (.aload_n 0, 1) := by decide +kernel
theorem dX4_fault_21 : decode cX4_fault 21 = .ok (.getfield 15, 3) := by decide +kernel
theorem dX4_fault_24 : decode cX4_fault 24 = .ok (.iload_n 1, 1) := by decide +kernel
theorem dX4_fault_25 : decode cX4_fault 25 = .ok (.aaload, 1) := by decide +kernel
theorem dX4_fault_26 : decode cX4_fault 26 = .ok (.aload_n 0, 1) := by decide +kernel
theorem dX4_fault_27 : decode cX4_fault 27 = .ok (.getfield 29, 3) := by decide +kernel
theorem dX4_fault_30 : decode cX4_fault 30 = .ok (.invokevirtual 110, 3) := by decide +kernel
theorem dX4_fault_33 : decode cX4_fault 33 = .ok (.ifCond .eq 8, 3) := by decide +kernel
theorem dX4_fault_36 : decode cX4_fault 36 = .ok (.bipush (-9), 2) := by decide +kernel
theorem dX4_fault_38 : decode cX4_fault 38 = .ok (.goto 10, 3) := by decide +kernel
theorem dX4_fault_41 : decode cX4_fault 41 = .ok (.aload_n 0, 1) := by decide +kernel
theorem dX4_fault_42 : decode cX4_fault 42 = .ok (.getfield 35, 3) := by decide +kernel
theorem dX4_fault_45 : decode cX4_fault 45 = .ok (.getfield 114, 3) := by decide +kernel
theorem dX4_fault_48 : decode cX4_fault 48 = .ok (.ireturn, 1) := by decide +kernel
theorem dX4_land_0 : decode cX4_land 0 = .ok (.aload_n 0, 1) := by decide +kernel
theorem dX4_land_1 : decode cX4_land 1 = .ok (.aload_n 0, 1) := by decide +kernel
theorem dX4_land_2 : decode cX4_land 2 = .ok (.getfield 15, 3) := by decide +kernel
theorem dX4_land_5 : decode cX4_land 5 = .ok (.iload_n 1, 1) := by decide +kernel
theorem dX4_land_6 : decode cX4_land 6 = .ok (.invokevirtual 82, 3) := by decide +kernel
theorem dX4_land_9 : decode cX4_land 9 = .ok (.istore_n 2, 1) := by decide +kernel
theorem dX4_land_10 : decode cX4_land 10 = .ok (.iload_n 2, 1) := by decide +kernel
theorem dX4_land_11 : decode cX4_land 11 = .ok (.ifCond .eq 5, 3) := by decide +kernel
theorem dX4_land_14 : decode cX4_land 14 = .ok (.iload_n 2, 1) := by decide +kernel
theorem dX4_land_15 : decode cX4_land 15 = .ok (.ireturn, 1) := by decide +kernel
theorem dX4_land_16 : decode cX4_land 16 = .ok (.aload_n 0, 1) := by decide +kernel
theorem dX4_land_17 : decode cX4_land 17 = .ok (.getfield 35, 3) := by decide +kernel
theorem dX4_land_20 : decode cX4_land 20 = .ok (.aload_n 0, 1) := by decide +kernel
theorem dX4_land_21 : decode cX4_land 21 = .ok (.getfield 15, 3) := by decide +kernel
theorem dX4_land_24 : decode cX4_land 24 = .ok (.iload_n 1, 1) := by decide +kernel
theorem dX4_land_25 : decode cX4_land 25 = .ok (.aaload, 1) := by decide +kernel
theorem dX4_land_26 : decode cX4_land 26 = .ok (.aload_n 0, 1) := by decide +kernel
theorem dX4_land_27 : decode cX4_land 27 = .ok (.getfield 29, 3) := by decide +kernel
theorem dX4_land_30 : decode cX4_land 30 = .ok (.invokevirtual 110, 3) := by decide +kernel
theorem dX4_land_33 : decode cX4_land 33 = .ok (.ifCond .ne 6, 3) := by decide +kernel
theorem dX4_land_36 : decode cX4_land 36 = .ok (.bipush (-4), 2) := by decide +kernel
theorem dX4_land_38 : decode cX4_land 38 = .ok (.ireturn, 1) := by decide +kernel
theorem dX4_land_39 : decode cX4_land 39 = .ok (.aload_n 0, 1) := by decide +kernel
theorem dX4_land_40 : decode cX4_land 40 = .ok (.getfield 21, 3) := by decide +kernel
theorem dX4_land_43 : decode cX4_land 43 = .ok (.aload_n 0, 1) := by decide +kernel
theorem dX4_land_44 : decode cX4_land 44 = .ok (.getfield 29, 3) := by decide +kernel
theorem dX4_land_47 : decode cX4_land 47 = .ok (.invokevirtual 117, 3) := by decide +kernel
theorem dX4_land_50 : decode cX4_land 50 = .ok (.iconst 0, 1) := by decide +kernel
theorem dX4_land_51 : decode cX4_land 51 = .ok (.istore_n 3, 1) := by decide +kernel
theorem dX4_land_52 : decode cX4_land 52 = .ok (.iload_n 3, 1) := by decide +kernel
theorem dX4_land_53 : decode cX4_land 53 = .ok (.iconst 3, 1) := by decide +kernel
theorem dX4_land_54 : decode cX4_land 54 = .ok (.if_icmp .ge 19, 3) := by decide +kernel
theorem dX4_land_57 : decode cX4_land 57 = .ok (.aload_n 0, 1) := by decide +kernel
theorem dX4_land_58 : decode cX4_land 58 = .ok (.getfield 25, 3) := by decide +kernel
theorem dX4_land_61 : decode cX4_land 61 = .ok (.iload_n 3, 1) := by decide +kernel
theorem dX4_land_62 : decode cX4_land 62 = .ok (.aaload, 1) := by decide +kernel
theorem dX4_land_63 : decode cX4_land 63 = .ok (.iconst 0, 1) := by decide +kernel
theorem dX4_land_64 : decode cX4_land 64 = .ok (.putfield 121, 3) := by decide +kernel
theorem dX4_land_67 : decode cX4_land 67 = .ok (.iinc 3 1, 3) := by decide +kernel
theorem dX4_land_70 : decode cX4_land 70 = .ok (.goto (-18), 3) := by decide +kernel
theorem dX4_land_73 : decode cX4_land 73 = .ok (.aload_n 0, 1) := by decide +kernel
theorem dX4_land_74 : decode cX4_land 74 = .ok (.getfield 21, 3) := by decide +kernel
theorem dX4_land_77 : decode cX4_land 77 = .ok (.getfield 124, 3) := by decide +kernel
theorem dX4_land_80 : decode cX4_land 80 = .ok (.ireturn, 1) := by decide +kernel
theorem dX4_one_0 : decode cX4_one 0 = .ok (.aload_n 0, 1) := by decide +kernel
theorem dX4_one_1 : decode cX4_one 1 = .ok (.getfield 21, 3) := by decide +kernel
theorem dX4_one_4 : decode cX4_one 4 = .ok (.iload_n 1, 1) := by decide +kernel
theorem dX4_one_5 : decode cX4_one 5 = .ok (.invokevirtual 127, 3) := by decide +kernel
theorem dX4_one_8 : decode cX4_one 8 = .ok (.ifCond .eq 12, 3) := by decide +kernel
theorem dX4_one_11 : decode cX4_one 11 = .ok (.iload_n 2, 1) := by decide +kernel
theorem dX4_one_12 : decode cX4_one 12 = .ok (.ifCond .lt 8, 3) := by decide +kernel
theorem dX4_one_15 : decode cX4_one 15 = .ok (.iload_n 2, 1) := by decide +kernel
theorem dX4_one_16 : decode cX4_one 16 = .ok (.iconst 5, 1) := by decide +kernel
theorem dX4_one_17 : decode cX4_one 17 = .ok (.if_icmp .le 5, 3) := by decide +kernel
theorem dX4_one_20 : decode cX4_one 20 = .ok (.iconst (-1), 1) := by decide +kernel
theorem dX4_one_21 : decode cX4_one 21 = .ok (.ireturn, 1) := by decide +kernel
theorem dX4_one_22 : decode cX4_one 22 = .ok (.aload_n 0, 1) := by decide +kernel
theorem dX4_one_23 : decode cX4_one 23 = .ok (.aload_n 0, 1) := by decide +kernel
theorem dX4_one_24 : decode cX4_one 24 = .ok (.iload_n 1, 1) := by decide +kernel
theorem dX4_one_25 : decode cX4_one 25 = .ok (.iload_n 2, 1) := by decide +kernel
theorem dX4_one_26 : decode cX4_one 26 = .ok (.invokevirtual 130, 3) := by decide +kernel
theorem dX4_one_29 : decode cX4_one 29 = .ok (.putfield 50, 3) := by decide +kernel
theorem dX4_one_32 : decode cX4_one 32 = .ok (.iconst 1, 1) := by decide +kernel
theorem dX4_one_33 : decode cX4_one 33 = .ok (.ireturn, 1) := by decide +kernel
theorem dX4_mark_0 : decode cX4_mark 0 = .ok (.aload_n 0, 1) := by decide +kernel
theorem dX4_mark_1 : decode cX4_mark 1 = .ok (.getfield 21, 3) := by decide +kernel
theorem dX4_mark_4 : decode cX4_mark 4 = .ok (.iload_n 1, 1) := by decide +kernel
theorem dX4_mark_5 : decode cX4_mark 5 = .ok (.invokevirtual 127, 3) := by decide +kernel
theorem dX4_mark_8 : decode cX4_mark 8 = .ok (.ifCond .eq 13, 3) := by decide +kernel
theorem dX4_mark_11 : decode cX4_mark 11 = .ok (.iload_n 2, 1) := by decide +kernel
theorem dX4_mark_12 : decode cX4_mark 12 = .ok (.iconst 1, 1) := by decide +kernel
theorem dX4_mark_13 : decode cX4_mark 13 = .ok (.if_icmp .lt 8, 3) := by decide +kernel
theorem dX4_mark_16 : decode cX4_mark 16 = .ok (.iload_n 2, 1) := by decide +kernel
theorem dX4_mark_17 : decode cX4_mark 17 = .ok (.iconst 5, 1) := by decide +kernel
theorem dX4_mark_18 : decode cX4_mark 18 = .ok (.if_icmp .le 5, 3) := by decide +kernel
theorem dX4_mark_21 : decode cX4_mark 21 = .ok (.iconst (-1), 1) := by decide +kernel
theorem dX4_mark_22 : decode cX4_mark 22 = .ok (.ireturn, 1) := by decide +kernel
theorem dX4_mark_23 : decode cX4_mark 23 = .ok (.aload_n 0, 1) := by decide +kernel
theorem dX4_mark_24 : decode cX4_mark 24 = .ok (.getfield 21, 3) := by decide +kernel
theorem dX4_mark_27 : decode cX4_mark 27 = .ok (.iload_n 1, 1) := by decide +kernel
theorem dX4_mark_28 : decode cX4_mark 28 = .ok (.iload_n 2, 1) := by decide +kernel
theorem dX4_mark_29 : decode cX4_mark 29 = .ok (.invokevirtual 134, 3) := by decide +kernel
theorem dX4_mark_32 : decode cX4_mark 32 = .ok (.ifCond .ne 9, 3) := by decide +kernel
theorem dX4_mark_35 : decode cX4_mark 35 = .ok (.aload_n 0, 1) := by decide +kernel
theorem dX4_mark_36 : decode cX4_mark 36 = .ok (.iconst 3, 1) := by decide +kernel
theorem dX4_mark_37 : decode cX4_mark 37 = .ok (.invokevirtual 67, 3) := by decide +kernel
theorem dX4_mark_40 : decode cX4_mark 40 = .ok (.ireturn, 1) := by decide +kernel
theorem dX4_mark_41 : decode cX4_mark 41 = .ok (.iload_n 2, 1) := by decide +kernel
theorem dX4_mark_42 : decode cX4_mark 42 = .ok (.tableswitch 97 1 4 #[30, 57, 74, 88], 30) := by decide +kernel
theorem dX4_mark_72 : decode cX4_mark 72 = .ok (.aload_n 0, 1) := by decide +kernel
theorem dX4_mark_73 : decode cX4_mark 73 = .ok (.getfield 21, 3) := by decide +kernel
theorem dX4_mark_76 : decode cX4_mark 76 = .ok (.getfield 137, 3) := by decide +kernel
theorem dX4_mark_79 : decode cX4_mark 79 = .ok (.iload_n 1, 1) := by decide +kernel
theorem dX4_mark_80 : decode cX4_mark 80 = .ok (.iaload, 1) := by decide +kernel
theorem dX4_mark_81 : decode cX4_mark 81 = .ok (.aload_n 0, 1) := by decide +kernel
theorem dX4_mark_82 : decode cX4_mark 82 = .ok (.getfield 21, 3) := by decide +kernel
theorem dX4_mark_85 : decode cX4_mark 85 = .ok (.getfield 140, 3) := by decide +kernel
theorem dX4_mark_88 : decode cX4_mark 88 = .ok (.iload_n 1, 1) := by decide +kernel
theorem dX4_mark_89 : decode cX4_mark 89 = .ok (.iaload, 1) := by decide +kernel
theorem dX4_mark_90 : decode cX4_mark 90 = .ok (.if_icmp .eq 7, 3) := by decide +kernel
theorem dX4_mark_93 : decode cX4_mark 93 = .ok (.iconst 1, 1) := by decide +kernel
theorem dX4_mark_94 : decode cX4_mark 94 = .ok (.goto 4, 3) := by decide +kernel
theorem dX4_mark_97 : decode cX4_mark 97 = .ok (.iconst 0, 1) := by decide +kernel
theorem dX4_mark_98 : decode cX4_mark 98 = .ok (.ireturn, 1) := by decide +kernel
theorem dX4_mark_99 : decode cX4_mark 99 = .ok (.aload_n 0, 1) := by decide +kernel
theorem dX4_mark_100 : decode cX4_mark 100 = .ok (.getfield 21, 3) := by decide +kernel
theorem dX4_mark_103 : decode cX4_mark 103 = .ok (.aload_n 0, 1) := by decide +kernel
theorem dX4_mark_104 : decode cX4_mark 104 = .ok (.getfield 21, 3) := by decide +kernel
theorem dX4_mark_107 : decode cX4_mark 107 = .ok (.getfield 137, 3) := by decide +kernel
theorem dX4_mark_110 : decode cX4_mark 110 = .ok (.iload_n 1, 1) := by decide +kernel
theorem dX4_mark_111 : decode cX4_mark 111 = .ok (.iaload, 1) := by decide +kernel
theorem dX4_mark_112 : decode cX4_mark 112 = .ok (.invokevirtual 143, 3) := by decide +kernel
theorem dX4_mark_115 : decode cX4_mark 115 = .ok (.ireturn, 1) := by decide +kernel
theorem dX4_mark_116 : decode cX4_mark 116 = .ok (.iconst 0, 1) := by decide +kernel
theorem dX4_mark_117 : decode cX4_mark 117 = .ok (.iconst 3, 1) := by decide +kernel
theorem dX4_mark_118 : decode cX4_mark 118 = .ok (.aload_n 0, 1) := by decide +kernel
theorem dX4_mark_119 : decode cX4_mark 119 = .ok (.getfield 21, 3) := by decide +kernel
theorem dX4_mark_122 : decode cX4_mark 122 = .ok (.invokevirtual 146, 3) := by decide +kernel
theorem dX4_mark_125 : decode cX4_mark 125 = .ok (.isub, 1) := by decide +kernel
theorem dX4_mark_126 : decode cX4_mark 126 = .ok (.invokestatic 150, 3) := by decide +kernel
theorem dX4_mark_129 : decode cX4_mark 129 = .ok (.ireturn, 1) := by decide +kernel
theorem dX4_mark_130 : decode cX4_mark 130 = .ok (.aload_n 0, 1) := by decide +kernel
theorem dX4_mark_131 : decode cX4_mark 131 = .ok (.getfield 21, 3) := by decide +kernel
theorem dX4_mark_134 : decode cX4_mark 134 = .ok (.iload_n 1, 1) := by decide +kernel
theorem dX4_mark_135 : decode cX4_mark 135 = .ok (.invokevirtual 155, 3) := by decide +kernel
theorem dX4_mark_138 : decode cX4_mark 138 = .ok (.ireturn, 1) := by decide +kernel
theorem dX4_mark_139 : decode cX4_mark 139 = .ok (.aload_n 0, 1) := by decide +kernel
theorem dX4_mark_140 : decode cX4_mark 140 = .ok (.getfield 21, 3) := by decide +kernel
theorem dX4_mark_143 : decode cX4_mark 143 = .ok (.getfield 137, 3) := by decide +kernel
theorem dX4_mark_146 : decode cX4_mark 146 = .ok (.iload_n 1, 1) := by decide +kernel
theorem dX4_mark_147 : decode cX4_mark 147 = .ok (.iaload, 1) := by decide +kernel
theorem dX4_mark_148 : decode cX4_mark 148 = .ok (.aload_n 0, 1) := by decide +kernel
theorem dX4_mark_149 : decode cX4_mark 149 = .ok (.getfield 21, 3) := by decide +kernel
theorem dX4_mark_152 : decode cX4_mark 152 = .ok (.getfield 158, 3) := by decide +kernel
theorem dX4_mark_155 : decode cX4_mark 155 = .ok (.aload_n 0, 1) := by decide +kernel
theorem dX4_mark_156 : decode cX4_mark 156 = .ok (.getfield 21, 3) := by decide +kernel
theorem dX4_mark_159 : decode cX4_mark 159 = .ok (.getfield 161, 3) := by decide +kernel
theorem dX4_mark_162 : decode cX4_mark 162 = .ok (.invokestatic 164, 3) := by decide +kernel
theorem dX4_mark_165 : decode cX4_mark 165 = .ok (.isub, 1) := by decide +kernel
theorem dX4_mark_166 : decode cX4_mark 166 = .ok (.invokestatic 167, 3) := by decide +kernel
theorem dX4_mark_169 : decode cX4_mark 169 = .ok (.ireturn, 1) := by decide +kernel
theorem dX4_coast_0 : decode cX4_coast 0 = .ok (.iload_n 1, 1) := by decide +kernel
theorem dX4_coast_1 : decode cX4_coast 1 = .ok (.ifCond .lt 8, 3) := by decide +kernel
theorem dX4_coast_4 : decode cX4_coast 4 = .ok (.iload_n 1, 1) := by decide +kernel
theorem dX4_coast_5 : decode cX4_coast 5 = .ok (.iconst 5, 1) := by decide +kernel
theorem dX4_coast_6 : decode cX4_coast 6 = .ok (.if_icmp .le 5, 3) := by decide +kernel
theorem dX4_coast_9 : decode cX4_coast 9 = .ok (.iconst (-1), 1) := by decide +kernel
theorem dX4_coast_10 : decode cX4_coast 10 = .ok (.ireturn, 1) := by decide +kernel
theorem dX4_coast_11 : decode cX4_coast 11 = .ok (.aload_n 0, 1) := by decide +kernel
theorem dX4_coast_12 : decode cX4_coast 12 = .ok (.getfield 21, 3) := by decide +kernel
theorem dX4_coast_15 : decode cX4_coast 15 = .ok (.invokevirtual 170, 3) := by decide +kernel
theorem dX4_coast_18 : decode cX4_coast 18 = .ok (.ifCond .ne 6, 3) := by decide +kernel
theorem dX4_coast_21 : decode cX4_coast 21 = .ok (.bipush (-4), 2) := by decide +kernel
theorem dX4_coast_23 : decode cX4_coast 23 = .ok (.ireturn, 1) := by decide +kernel
theorem dX4_coast_24 : decode cX4_coast 24 = .ok (.aload_n 0, 1) := by decide +kernel
theorem dX4_coast_25 : decode cX4_coast 25 = .ok (.getfield 21, 3) := by decide +kernel
theorem dX4_coast_28 : decode cX4_coast 28 = .ok (.getfield 158, 3) := by decide +kernel
theorem dX4_coast_31 : decode cX4_coast 31 = .ok (.istore_n 2, 1) := by decide +kernel
theorem dX4_coast_32 : decode cX4_coast 32 = .ok (.aload_n 0, 1) := by decide +kernel
theorem dX4_coast_33 : decode cX4_coast 33 = .ok (.getfield 21, 3) := by decide +kernel
theorem dX4_coast_36 : decode cX4_coast 36 = .ok (.getfield 161, 3) := by decide +kernel
theorem dX4_coast_39 : decode cX4_coast 39 = .ok (.istore_n 3, 1) := by decide +kernel
theorem dX4_coast_40 : decode cX4_coast 40 = .ok (.iload_n 1, 1) := by decide +kernel
theorem dX4_coast_41 : decode cX4_coast 41 = .ok (.tableswitch 67 0 4 #[35, 37, 39, 47, 57], 35) := by decide +kernel
theorem dX4_coast_76 : decode cX4_coast 76 = .ok (.iload_n 2, 1) := by decide +kernel
theorem dX4_coast_77 : decode cX4_coast 77 = .ok (.ireturn, 1) := by decide +kernel
theorem dX4_coast_78 : decode cX4_coast 78 = .ok (.iload_n 3, 1) := by decide +kernel
theorem dX4_coast_79 : decode cX4_coast 79 = .ok (.ireturn, 1) := by decide +kernel
theorem dX4_coast_80 : decode cX4_coast 80 = .ok (.aload_n 0, 1) := by decide +kernel
theorem dX4_coast_81 : decode cX4_coast 81 = .ok (.getfield 21, 3) := by decide +kernel
theorem dX4_coast_84 : decode cX4_coast 84 = .ok (.invokevirtual 146, 3) := by decide +kernel
theorem dX4_coast_87 : decode cX4_coast 87 = .ok (.ireturn, 1) := by decide +kernel
theorem dX4_coast_88 : decode cX4_coast 88 = .ok (.aload_n 0, 1) := by decide +kernel
theorem dX4_coast_89 : decode cX4_coast 89 = .ok (.getfield 21, 3) := by decide +kernel
theorem dX4_coast_92 : decode cX4_coast 92 = .ok (.iload_n 2, 1) := by decide +kernel
theorem dX4_coast_93 : decode cX4_coast 93 = .ok (.iload_n 3, 1) := by decide +kernel
theorem dX4_coast_94 : decode cX4_coast 94 = .ok (.invokevirtual 173, 3) := by decide +kernel
theorem dX4_coast_97 : decode cX4_coast 97 = .ok (.ireturn, 1) := by decide +kernel
theorem dX4_coast_98 : decode cX4_coast 98 = .ok (.aload_n 0, 1) := by decide +kernel
theorem dX4_coast_99 : decode cX4_coast 99 = .ok (.getfield 21, 3) := by decide +kernel
theorem dX4_coast_102 : decode cX4_coast 102 = .ok (.iload_n 2, 1) := by decide +kernel
theorem dX4_coast_103 : decode cX4_coast 103 = .ok (.iload_n 3, 1) := by decide +kernel
theorem dX4_coast_104 : decode cX4_coast 104 = .ok (.invokevirtual 176, 3) := by decide +kernel
theorem dX4_coast_107 : decode cX4_coast 107 = .ok (.ireturn, 1) := by decide +kernel
theorem dX4_coast_108 : decode cX4_coast 108 = .ok (.aload_n 0, 1) := by decide +kernel
theorem dX4_coast_109 : decode cX4_coast 109 = .ok (.getfield 21, 3) := by decide +kernel
theorem dX4_coast_112 : decode cX4_coast 112 = .ok (.iload_n 2, 1) := by decide +kernel
theorem dX4_coast_113 : decode cX4_coast 113 = .ok (.iload_n 3, 1) := by decide +kernel
theorem dX4_coast_114 : decode cX4_coast 114 = .ok (.invokevirtual 179, 3) := by decide +kernel
theorem dX4_coast_117 : decode cX4_coast 117 = .ok (.ireturn, 1) := by decide +kernel
theorem dX4_year_0 : decode cX4_year 0 = .ok (.aload_n 0, 1) := by decide +kernel
theorem dX4_year_1 : decode cX4_year 1 = .ok (.getfield 21, 3) := by decide +kernel
theorem dX4_year_4 : decode cX4_year 4 = .ok (.invokevirtual 170, 3) := by decide +kernel
theorem dX4_year_7 : decode cX4_year 7 = .ok (.ifCond .ne 6, 3) := by decide +kernel
theorem dX4_year_10 : decode cX4_year 10 = .ok (.bipush (-4), 2) := by decide +kernel
theorem dX4_year_12 : decode cX4_year 12 = .ok (.ireturn, 1) := by decide +kernel
theorem dX4_year_13 : decode cX4_year 13 = .ok (.aload_n 0, 1) := by decide +kernel
theorem dX4_year_14 : decode cX4_year 14 = .ok (.getfield 21, 3) := by decide +kernel
theorem dX4_year_17 : decode cX4_year 17 = .ok (.iconst 1, 1) := by decide +kernel
theorem dX4_year_18 : decode cX4_year 18 = .ok (.invokevirtual 182, 3) := by decide +kernel
theorem dX4_year_21 : decode cX4_year 21 = .ok (.ifCond .ne 6, 3) := by decide +kernel
theorem dX4_year_24 : decode cX4_year 24 = .ok (.bipush (-2), 2) := by decide +kernel
theorem dX4_year_26 : decode cX4_year 26 = .ok (.ireturn, 1) := by decide +kernel
theorem dX4_year_27 : decode cX4_year 27 = .ok (.aload_n 0, 1) := by decide +kernel
theorem dX4_year_28 : decode cX4_year 28 = .ok (.getfield 21, 3) := by decide +kernel
theorem dX4_year_31 : decode cX4_year 31 = .ok (.invokevirtual 185, 3) := by decide +kernel
theorem dX4_year_34 : decode cX4_year 34 = .ok (.aload_n 0, 1) := by decide +kernel
theorem dX4_year_35 : decode cX4_year 35 = .ok (.getfield 21, 3) := by decide +kernel
theorem dX4_year_38 : decode cX4_year 38 = .ok (.invokevirtual 146, 3) := by decide +kernel
theorem dX4_year_41 : decode cX4_year 41 = .ok (.ireturn, 1) := by decide +kernel
theorem dX4_step_0 : decode cX4_step 0 = .ok (.iload_n 1, 1) := by decide +kernel
theorem dX4_step_1 : decode cX4_step 1 = .ok (.ifCond .eq 8, 3) := by decide +kernel
theorem dX4_step_4 : decode cX4_step 4 = .ok (.iload_n 1, 1) := by decide +kernel
theorem dX4_step_5 : decode cX4_step 5 = .ok (.iconst 1, 1) := by decide +kernel
theorem dX4_step_6 : decode cX4_step 6 = .ok (.if_icmp .ne 13, 3) := by decide +kernel
theorem dX4_step_9 : decode cX4_step 9 = .ok (.iload_n 2, 1) := by decide +kernel
theorem dX4_step_10 : decode cX4_step 10 = .ok (.iconst 1, 1) := by decide +kernel
theorem dX4_step_11 : decode cX4_step 11 = .ok (.if_icmp .eq 10, 3) := by decide +kernel
theorem dX4_step_14 : decode cX4_step 14 = .ok (.iload_n 2, 1) := by decide +kernel
theorem dX4_step_15 : decode cX4_step 15 = .ok (.iconst (-1), 1) := by decide +kernel
theorem dX4_step_16 : decode cX4_step 16 = .ok (.if_icmp .eq 5, 3) := by decide +kernel
theorem dX4_step_19 : decode cX4_step 19 = .ok (.iconst (-1), 1) := by decide +kernel
theorem dX4_step_20 : decode cX4_step 20 = .ok (.ireturn, 1) := by decide +kernel
theorem dX4_step_21 : decode cX4_step 21 = .ok (.aload_n 0, 1) := by decide +kernel
theorem dX4_step_22 : decode cX4_step 22 = .ok (.getfield 21, 3) := by decide +kernel
theorem dX4_step_25 : decode cX4_step 25 = .ok (.invokevirtual 170, 3) := by decide +kernel
theorem dX4_step_28 : decode cX4_step 28 = .ok (.ifCond .eq 29, 3) := by decide +kernel
theorem dX4_step_31 : decode cX4_step 31 = .ok (.aload_n 0, 1) := by decide +kernel
theorem dX4_step_32 : decode cX4_step 32 = .ok (.getfield 21, 3) := by decide +kernel
theorem dX4_step_35 : decode cX4_step 35 = .ok (.iload_n 1, 1) := by decide +kernel
theorem dX4_step_36 : decode cX4_step 36 = .ok (.iload_n 2, 1) := by decide +kernel
theorem dX4_step_37 : decode cX4_step 37 = .ok (.aload_n 0, 1) := by decide +kernel
theorem dX4_step_38 : decode cX4_step 38 = .ok (.getfield 21, 3) := by decide +kernel
theorem dX4_step_41 : decode cX4_step 41 = .ok (.getfield 158, 3) := by decide +kernel
theorem dX4_step_44 : decode cX4_step 44 = .ok (.aload_n 0, 1) := by decide +kernel
theorem dX4_step_45 : decode cX4_step 45 = .ok (.getfield 21, 3) := by decide +kernel
theorem dX4_step_48 : decode cX4_step 48 = .ok (.getfield 161, 3) := by decide +kernel
theorem dX4_step_51 : decode cX4_step 51 = .ok (.invokevirtual 188, 3) := by decide +kernel
theorem dX4_step_54 : decode cX4_step 54 = .ok (.ifCond .ne 6, 3) := by decide +kernel
theorem dX4_step_57 : decode cX4_step 57 = .ok (.bipush (-4), 2) := by decide +kernel
theorem dX4_step_59 : decode cX4_step 59 = .ok (.ireturn, 1) := by decide +kernel
theorem dX4_step_60 : decode cX4_step 60 = .ok (.aload_n 0, 1) := by decide +kernel
theorem dX4_step_61 : decode cX4_step 61 = .ok (.getfield 21, 3) := by decide +kernel
theorem dX4_step_64 : decode cX4_step 64 = .ok (.iconst 1, 1) := by decide +kernel
theorem dX4_step_65 : decode cX4_step 65 = .ok (.invokevirtual 182, 3) := by decide +kernel
theorem dX4_step_68 : decode cX4_step 68 = .ok (.ifCond .ne 6, 3) := by decide +kernel
theorem dX4_step_71 : decode cX4_step 71 = .ok (.bipush (-2), 2) := by decide +kernel
theorem dX4_step_73 : decode cX4_step 73 = .ok (.ireturn, 1) := by decide +kernel
theorem dX4_step_74 : decode cX4_step 74 = .ok (.aload_n 0, 1) := by decide +kernel
theorem dX4_step_75 : decode cX4_step 75 = .ok (.getfield 21, 3) := by decide +kernel
theorem dX4_step_78 : decode cX4_step 78 = .ok (.iload_n 1, 1) := by decide +kernel
theorem dX4_step_79 : decode cX4_step 79 = .ok (.ifCond .ne 8, 3) := by decide +kernel
theorem dX4_step_82 : decode cX4_step 82 = .ok (.iload_n 2, 1) := by decide +kernel
theorem dX4_step_83 : decode cX4_step 83 = .ok (.ineg, 1) := by decide +kernel
theorem dX4_step_84 : decode cX4_step 84 = .ok (.goto 4, 3) := by decide +kernel
theorem dX4_step_87 : decode cX4_step 87 = .ok (.iconst 0, 1) := by decide +kernel
theorem dX4_step_88 : decode cX4_step 88 = .ok (.iload_n 1, 1) := by decide +kernel
theorem dX4_step_89 : decode cX4_step 89 = .ok (.iconst 1, 1) := by decide +kernel
theorem dX4_step_90 : decode cX4_step 90 = .ok (.if_icmp .ne 7, 3) := by decide +kernel
theorem dX4_step_93 : decode cX4_step 93 = .ok (.iload_n 2, 1) := by decide +kernel
theorem dX4_step_94 : decode cX4_step 94 = .ok (.goto 4, 3) := by decide +kernel
theorem dX4_step_97 : decode cX4_step 97 = .ok (.iconst 0, 1) := by decide +kernel
theorem dX4_step_98 : decode cX4_step 98 = .ok (.iconst 0, 1) := by decide +kernel
theorem dX4_step_99 : decode cX4_step 99 = .ok (.iconst 0, 1) := by decide +kernel
theorem dX4_step_100 : decode cX4_step 100 = .ok (.iconst 0, 1) := by decide +kernel
theorem dX4_step_101 : decode cX4_step 101 = .ok (.invokevirtual 192, 3) := by decide +kernel
theorem dX4_step_104 : decode cX4_step 104 = .ok (.aload_n 0, 1) := by decide +kernel
theorem dX4_step_105 : decode cX4_step 105 = .ok (.getfield 21, 3) := by decide +kernel
theorem dX4_step_108 : decode cX4_step 108 = .ok (.invokevirtual 146, 3) := by decide +kernel
theorem dX4_step_111 : decode cX4_step 111 = .ok (.ireturn, 1) := by decide +kernel
theorem dX4_walk_0 : decode cX4_walk 0 = .ok (.aload_n 0, 1) := by decide +kernel
theorem dX4_walk_1 : decode cX4_walk 1 = .ok (.getfield 21, 3) := by decide +kernel
theorem dX4_walk_4 : decode cX4_walk 4 = .ok (.iload_n 1, 1) := by decide +kernel
theorem dX4_walk_5 : decode cX4_walk 5 = .ok (.invokevirtual 127, 3) := by decide +kernel
theorem dX4_walk_8 : decode cX4_walk 8 = .ok (.ifCond .eq 14, 3) := by decide +kernel
theorem dX4_walk_11 : decode cX4_walk 11 = .ok (.aload_n 0, 1) := by decide +kernel
theorem dX4_walk_12 : decode cX4_walk 12 = .ok (.getfield 21, 3) := by decide +kernel
theorem dX4_walk_15 : decode cX4_walk 15 = .ok (.iload_n 2, 1) := by decide +kernel
theorem dX4_walk_16 : decode cX4_walk 16 = .ok (.invokevirtual 196, 3) := by decide +kernel
theorem dX4_walk_19 : decode cX4_walk 19 = .ok (.ifCond .ne 5, 3) := by decide +kernel
theorem dX4_walk_22 : decode cX4_walk 22 = .ok (.iconst (-1), 1) := by decide +kernel
theorem dX4_walk_23 : decode cX4_walk 23 = .ok (.ireturn, 1) := by decide +kernel
theorem dX4_walk_24 : decode cX4_walk 24 = .ok (.iload_n 2, 1) := by decide +kernel
theorem dX4_walk_25 : decode cX4_walk 25 = .ok (.aload_n 0, 1) := by decide +kernel
theorem dX4_walk_26 : decode cX4_walk 26 = .ok (.getfield 21, 3) := by decide +kernel
theorem dX4_walk_29 : decode cX4_walk 29 = .ok (.getfield 137, 3) := by decide +kernel
theorem dX4_walk_32 : decode cX4_walk 32 = .ok (.iload_n 1, 1) := by decide +kernel
theorem dX4_walk_33 : decode cX4_walk 33 = .ok (.iaload, 1) := by decide +kernel
theorem dX4_walk_34 : decode cX4_walk 34 = .ok (.isub, 1) := by decide +kernel
theorem dX4_walk_35 : decode cX4_walk 35 = .ok (.istore_n 3, 1) := by decide +kernel
theorem dX4_walk_36 : decode cX4_walk 36 = .ok (.iload_n 3, 1) := by decide +kernel
theorem dX4_walk_37 : decode cX4_walk 37 = .ok (.iconst 1, 1) := by decide +kernel
theorem dX4_walk_38 : decode cX4_walk 38 = .ok (.if_icmp .eq 11, 3) := by decide +kernel
theorem dX4_walk_41 : decode cX4_walk 41 = .ok (.iload_n 3, 1) := by decide +kernel
theorem dX4_walk_42 : decode cX4_walk 42 = .ok (.iconst (-1), 1) := by decide +kernel
theorem dX4_walk_43 : decode cX4_walk 43 = .ok (.if_icmp .eq 6, 3) := by decide +kernel
theorem dX4_walk_46 : decode cX4_walk 46 = .ok (.bipush (-4), 2) := by decide +kernel
theorem dX4_walk_48 : decode cX4_walk 48 = .ok (.ireturn, 1) := by decide +kernel
theorem dX4_walk_49 : decode cX4_walk 49 = .ok (.aload_n 0, 1) := by decide +kernel
theorem dX4_walk_50 : decode cX4_walk 50 = .ok (.getfield 21, 3) := by decide +kernel
theorem dX4_walk_53 : decode cX4_walk 53 = .ok (.iconst 1, 1) := by decide +kernel
theorem dX4_walk_54 : decode cX4_walk 54 = .ok (.invokevirtual 182, 3) := by decide +kernel
theorem dX4_walk_57 : decode cX4_walk 57 = .ok (.ifCond .ne 6, 3) := by decide +kernel
theorem dX4_walk_60 : decode cX4_walk 60 = .ok (.bipush (-2), 2) := by decide +kernel
theorem dX4_walk_62 : decode cX4_walk 62 = .ok (.ireturn, 1) := by decide +kernel
theorem dX4_walk_63 : decode cX4_walk 63 = .ok (.aload_n 0, 1) := by decide +kernel
theorem dX4_walk_64 : decode cX4_walk 64 = .ok (.getfield 21, 3) := by decide +kernel
theorem dX4_walk_67 : decode cX4_walk 67 = .ok (.iconst 0, 1) := by decide +kernel
theorem dX4_walk_68 : decode cX4_walk 68 = .ok (.iconst 0, 1) := by decide +kernel
theorem dX4_walk_69 : decode cX4_walk 69 = .ok (.iconst 0, 1) := by decide +kernel
theorem dX4_walk_70 : decode cX4_walk 70 = .ok (.iload_n 1, 1) := by decide +kernel
theorem dX4_walk_71 : decode cX4_walk 71 = .ok (.iload_n 3, 1) := by decide +kernel
theorem dX4_walk_72 : decode cX4_walk 72 = .ok (.invokevirtual 192, 3) := by decide +kernel
theorem dX4_walk_75 : decode cX4_walk 75 = .ok (.aload_n 0, 1) := by decide +kernel
theorem dX4_walk_76 : decode cX4_walk 76 = .ok (.getfield 21, 3) := by decide +kernel
theorem dX4_walk_79 : decode cX4_walk 79 = .ok (.iload_n 1, 1) := by decide +kernel
theorem dX4_walk_80 : decode cX4_walk 80 = .ok (.invokevirtual 199, 3) := by decide +kernel
theorem dX4_walk_83 : decode cX4_walk 83 = .ok (.ifCond .eq 7, 3) := by decide +kernel
theorem dX4_walk_86 : decode cX4_walk 86 = .ok (.iconst 1, 1) := by decide +kernel
theorem dX4_walk_87 : decode cX4_walk 87 = .ok (.goto 4, 3) := by decide +kernel
theorem dX4_walk_90 : decode cX4_walk 90 = .ok (.iconst 0, 1) := by decide +kernel
theorem dX4_walk_91 : decode cX4_walk 91 = .ok (.ireturn, 1) := by decide +kernel
theorem dX4_undo_0 : decode cX4_undo 0 = .ok (.iload_n 1, 1) := by decide +kernel
theorem dX4_undo_1 : decode cX4_undo 1 = .ok (.ifCond .lt 17, 3) := by decide +kernel
theorem dX4_undo_4 : decode cX4_undo 4 = .ok (.iload_n 1, 1) := by decide +kernel
theorem dX4_undo_5 : decode cX4_undo 5 = .ok (.aload_n 0, 1) := by decide +kernel
theorem dX4_undo_6 : decode cX4_undo 6 = .ok (.getfield 21, 3) := by decide +kernel
theorem dX4_undo_9 : decode cX4_undo 9 = .ok (.getfield 202, 3) := by decide +kernel
theorem dX4_undo_12 : decode cX4_undo 12 = .ok (.getfield 206, 3) := by decide +kernel
theorem dX4_undo_15 : decode cX4_undo 15 = .ok (.if_icmp .le 5, 3) := by decide +kernel
theorem dX4_undo_18 : decode cX4_undo 18 = .ok (.iconst (-1), 1) := by decide +kernel
theorem dX4_undo_19 : decode cX4_undo 19 = .ok (.ireturn, 1) := by decide +kernel
theorem dX4_undo_20 : decode cX4_undo 20 = .ok (.aload_n 0, 1) := by decide +kernel
theorem dX4_undo_21 : decode cX4_undo 21 = .ok (.getfield 21, 3) := by decide +kernel
theorem dX4_undo_24 : decode cX4_undo 24 = .ok (.getfield 202, 3) := by decide +kernel
theorem dX4_undo_27 : decode cX4_undo 27 = .ok (.getfield 206, 3) := by decide +kernel
theorem dX4_undo_30 : decode cX4_undo 30 = .ok (.iload_n 1, 1) := by decide +kernel
theorem dX4_undo_31 : decode cX4_undo 31 = .ok (.isub, 1) := by decide +kernel
theorem dX4_undo_32 : decode cX4_undo 32 = .ok (.istore_n 2, 1) := by decide +kernel
theorem dX4_undo_33 : decode cX4_undo 33 = .ok (.aload_n 0, 1) := by decide +kernel
theorem dX4_undo_34 : decode cX4_undo 34 = .ok (.getfield 21, 3) := by decide +kernel
theorem dX4_undo_37 : decode cX4_undo 37 = .ok (.iload_n 2, 1) := by decide +kernel
theorem dX4_undo_38 : decode cX4_undo 38 = .ok (.invokevirtual 211, 3) := by decide +kernel
theorem dX4_undo_41 : decode cX4_undo 41 = .ok (.iload_n 2, 1) := by decide +kernel
theorem dX4_undo_42 : decode cX4_undo 42 = .ok (.ireturn, 1) := by decide +kernel
theorem dX4_keep_0 : decode cX4_keep 0 = .ok (.iload_n 1, 1) := by decide +kernel
theorem dX4_keep_1 : decode cX4_keep 1 = .ok (.invokestatic 215, 3) := by decide +kernel
theorem dX4_keep_4 : decode cX4_keep 4 = .ok (.ifCond .ne 5, 3) := by decide +kernel
theorem dX4_keep_7 : decode cX4_keep 7 = .ok (.iconst (-1), 1) := by decide +kernel
theorem dX4_keep_8 : decode cX4_keep 8 = .ok (.ireturn, 1) := by decide +kernel
theorem dX4_keep_9 : decode cX4_keep 9 = .ok (.aload_n 0, 1) := by decide +kernel
theorem dX4_keep_10 : decode cX4_keep 10 = .ok (.getfield 21, 3) := by decide +kernel
theorem dX4_keep_13 : decode cX4_keep 13 = .ok (.invokevirtual 170, 3) := by decide +kernel
theorem dX4_keep_16 : decode cX4_keep 16 = .ok (.ifCond .ne 6, 3) := by decide +kernel
theorem dX4_keep_19 : decode cX4_keep 19 = .ok (.bipush (-4), 2) := by decide +kernel
theorem dX4_keep_21 : decode cX4_keep 21 = .ok (.ireturn, 1) := by decide +kernel
theorem dX4_keep_22 : decode cX4_keep 22 = .ok (.aload_n 0, 1) := by decide +kernel
theorem dX4_keep_23 : decode cX4_keep 23 = .ok (.getfield 25, 3) := by decide +kernel
theorem dX4_keep_26 : decode cX4_keep 26 = .ok (.iload_n 1, 1) := by decide +kernel
theorem dX4_keep_27 : decode cX4_keep 27 = .ok (.aaload, 1) := by decide +kernel
theorem dX4_keep_28 : decode cX4_keep 28 = .ok (.aload_n 0, 1) := by decide +kernel
theorem dX4_keep_29 : decode cX4_keep 29 = .ok (.getfield 21, 3) := by decide +kernel
theorem dX4_keep_32 : decode cX4_keep 32 = .ok (.invokevirtual 117, 3) := by decide +kernel
theorem dX4_keep_35 : decode cX4_keep 35 = .ok (.aload_n 0, 1) := by decide +kernel
theorem dX4_keep_36 : decode cX4_keep 36 = .ok (.getfield 21, 3) := by decide +kernel
theorem dX4_keep_39 : decode cX4_keep 39 = .ok (.getfield 202, 3) := by decide +kernel
theorem dX4_keep_42 : decode cX4_keep 42 = .ok (.getfield 206, 3) := by decide +kernel
theorem dX4_keep_45 : decode cX4_keep 45 = .ok (.ireturn, 1) := by decide +kernel
theorem dX4_on_0 : decode cX4_on 0 = .ok (.iload_n 1, 1) := by decide +kernel
theorem dX4_on_1 : decode cX4_on 1 = .ok (.invokestatic 215, 3) := by decide +kernel
theorem dX4_on_4 : decode cX4_on 4 = .ok (.ifCond .ne 5, 3) := by decide +kernel
theorem dX4_on_7 : decode cX4_on 7 = .ok (.iconst (-1), 1) := by decide +kernel
theorem dX4_on_8 : decode cX4_on 8 = .ok (.ireturn, 1) := by decide +kernel
theorem dX4_on_9 : decode cX4_on 9 = .ok (.aload_n 0, 1) := by decide +kernel
theorem dX4_on_10 : decode cX4_on 10 = .ok (.getfield 25, 3) := by decide +kernel
theorem dX4_on_13 : decode cX4_on 13 = .ok (.iload_n 1, 1) := by decide +kernel
theorem dX4_on_14 : decode cX4_on 14 = .ok (.aaload, 1) := by decide +kernel
theorem dX4_on_15 : decode cX4_on 15 = .ok (.invokevirtual 170, 3) := by decide +kernel
theorem dX4_on_18 : decode cX4_on 18 = .ok (.ifCond .ne 9, 3) := by decide +kernel
theorem dX4_on_21 : decode cX4_on 21 = .ok (.aload_n 0, 1) := by decide +kernel
theorem dX4_on_22 : decode cX4_on 22 = .ok (.iconst 1, 1) := by decide +kernel
theorem dX4_on_23 : decode cX4_on 23 = .ok (.invokevirtual 67, 3) := by decide +kernel
theorem dX4_on_26 : decode cX4_on 26 = .ok (.ireturn, 1) := by decide +kernel
theorem dX4_on_27 : decode cX4_on 27 = .ok (.aload_n 0, 1) := by decide +kernel
theorem dX4_on_28 : decode cX4_on 28 = .ok (.getfield 21, 3) := by decide +kernel
theorem dX4_on_31 : decode cX4_on 31 = .ok (.aload_n 0, 1) := by decide +kernel
theorem dX4_on_32 : decode cX4_on 32 = .ok (.getfield 25, 3) := by decide +kernel
theorem dX4_on_35 : decode cX4_on 35 = .ok (.iload_n 1, 1) := by decide +kernel
theorem dX4_on_36 : decode cX4_on 36 = .ok (.aaload, 1) := by decide +kernel
theorem dX4_on_37 : decode cX4_on 37 = .ok (.invokevirtual 117, 3) := by decide +kernel
theorem dX4_on_40 : decode cX4_on 40 = .ok (.aload_n 0, 1) := by decide +kernel
theorem dX4_on_41 : decode cX4_on 41 = .ok (.getfield 21, 3) := by decide +kernel
theorem dX4_on_44 : decode cX4_on 44 = .ok (.getfield 202, 3) := by decide +kernel
theorem dX4_on_47 : decode cX4_on 47 = .ok (.getfield 206, 3) := by decide +kernel
theorem dX4_on_50 : decode cX4_on 50 = .ok (.ireturn, 1) := by decide +kernel
theorem dX4_belong_0 : decode cX4_belong 0 = .ok (.aload_n 0, 1) := by decide +kernel
theorem dX4_belong_1 : decode cX4_belong 1 = .ok (.getfield 21, 3) := by decide +kernel
theorem dX4_belong_4 : decode cX4_belong 4 = .ok (.aload_n 0, 1) := by decide +kernel
theorem dX4_belong_5 : decode cX4_belong 5 = .ok (.getfield 21, 3) := by decide +kernel
theorem dX4_belong_8 : decode cX4_belong 8 = .ok (.getfield 158, 3) := by decide +kernel
theorem dX4_belong_11 : decode cX4_belong 11 = .ok (.aload_n 0, 1) := by decide +kernel
theorem dX4_belong_12 : decode cX4_belong 12 = .ok (.getfield 21, 3) := by decide +kernel
theorem dX4_belong_15 : decode cX4_belong 15 = .ok (.getfield 161, 3) := by decide +kernel
theorem dX4_belong_18 : decode cX4_belong 18 = .ok (.invokevirtual 218, 3) := by decide +kernel
theorem dX4_belong_21 : decode cX4_belong 21 = .ok (.ireturn, 1) := by decide +kernel
theorem dX4_laws_0 : decode cX4_laws 0 = .ok (.aload_n 0, 1) := by decide +kernel
theorem dX4_laws_1 : decode cX4_laws 1 = .ok (.getfield 21, 3) := by decide +kernel
theorem dX4_laws_4 : decode cX4_laws 4 = .ok (.invokevirtual 170, 3) := by decide +kernel
theorem dX4_laws_7 : decode cX4_laws 7 = .ok (.ifCond .ne 6, 3) := by decide +kernel
theorem dX4_laws_10 : decode cX4_laws 10 = .ok (.bipush (-4), 2) := by decide +kernel
theorem dX4_laws_12 : decode cX4_laws 12 = .ok (.ireturn, 1) := by decide +kernel
theorem dX4_laws_13 : decode cX4_laws 13 = .ok (.bipush 7, 2) := by decide +kernel
theorem dX4_laws_15 : decode cX4_laws 15 = .ok (.aload_n 0, 1) := by decide +kernel
theorem dX4_laws_16 : decode cX4_laws 16 = .ok (.getfield 21, 3) := by decide +kernel
theorem dX4_laws_19 : decode cX4_laws 19 = .ok (.getfield 221, 3) := by decide +kernel
theorem dX4_laws_22 : decode cX4_laws 22 = .ok (.aload_n 0, 1) := by decide +kernel
theorem dX4_laws_23 : decode cX4_laws 23 = .ok (.getfield 21, 3) := by decide +kernel
theorem dX4_laws_26 : decode cX4_laws 26 = .ok (.getfield 224, 3) := by decide +kernel
theorem dX4_laws_29 : decode cX4_laws 29 = .ok (.ior, 1) := by decide +kernel
theorem dX4_laws_30 : decode cX4_laws 30 = .ok (.iconst (-1), 1) := by decide +kernel
theorem dX4_laws_31 : decode cX4_laws 31 = .ok (.ixor, 1) := by decide +kernel
theorem dX4_laws_32 : decode cX4_laws 32 = .ok (.iand, 1) := by decide +kernel
theorem dX4_laws_33 : decode cX4_laws 33 = .ok (.istore_n 1, 1) := by decide +kernel
theorem dX4_laws_34 : decode cX4_laws 34 = .ok (.aload_n 0, 1) := by decide +kernel
theorem dX4_laws_35 : decode cX4_laws 35 = .ok (.getfield 21, 3) := by decide +kernel
theorem dX4_laws_38 : decode cX4_laws 38 = .ok (.aload_n 0, 1) := by decide +kernel
theorem dX4_laws_39 : decode cX4_laws 39 = .ok (.getfield 21, 3) := by decide +kernel
theorem dX4_laws_42 : decode cX4_laws 42 = .ok (.getfield 158, 3) := by decide +kernel
theorem dX4_laws_45 : decode cX4_laws 45 = .ok (.aload_n 0, 1) := by decide +kernel
theorem dX4_laws_46 : decode cX4_laws 46 = .ok (.getfield 21, 3) := by decide +kernel
theorem dX4_laws_49 : decode cX4_laws 49 = .ok (.getfield 161, 3) := by decide +kernel
theorem dX4_laws_52 : decode cX4_laws 52 = .ok (.invokevirtual 173, 3) := by decide +kernel
theorem dX4_laws_55 : decode cX4_laws 55 = .ok (.istore_n 2, 1) := by decide +kernel
theorem dX4_laws_56 : decode cX4_laws 56 = .ok (.iconst 0, 1) := by decide +kernel
theorem dX4_laws_57 : decode cX4_laws 57 = .ok (.istore_n 3, 1) := by decide +kernel
theorem dX4_laws_58 : decode cX4_laws 58 = .ok (.iconst 1, 1) := by decide +kernel
theorem dX4_laws_59 : decode cX4_laws 59 = .ok (.istore 4, 2) := by decide +kernel
theorem dX4_laws_61 : decode cX4_laws 61 = .ok (.iload 4, 2) := by decide +kernel
theorem dX4_laws_63 : decode cX4_laws 63 = .ok (.bipush 7, 2) := by decide +kernel
theorem dX4_laws_65 : decode cX4_laws 65 = .ok (.if_icmp .gt 39, 3) := by decide +kernel
theorem dX4_laws_68 : decode cX4_laws 68 = .ok (.iload_n 1, 1) := by decide +kernel
theorem dX4_laws_69 : decode cX4_laws 69 = .ok (.iload 4, 2) := by decide +kernel
theorem dX4_laws_71 : decode cX4_laws 71 = .ok (.iand, 1) := by decide +kernel
theorem dX4_laws_72 : decode cX4_laws 72 = .ok (.ifCond .eq 23, 3) := by decide +kernel
theorem dX4_laws_75 : decode cX4_laws 75 = .ok (.iconst 2, 1) := by decide +kernel
theorem dX4_laws_76 : decode cX4_laws 76 = .ok (.aload_n 0, 1) := by decide +kernel
theorem dX4_laws_77 : decode cX4_laws 77 = .ok (.getfield 21, 3) := by decide +kernel
theorem dX4_laws_80 : decode cX4_laws 80 = .ok (.iload 4, 2) := by decide +kernel
theorem dX4_laws_82 : decode cX4_laws 82 = .ok (.invokevirtual 227, 3) := by decide +kernel
theorem dX4_laws_85 : decode cX4_laws 85 = .ok (.imul, 1) := by decide +kernel
theorem dX4_laws_86 : decode cX4_laws 86 = .ok (.iload_n 2, 1) := by decide +kernel
theorem dX4_laws_87 : decode cX4_laws 87 = .ok (.if_icmp .le 8, 3) := by decide +kernel
theorem dX4_laws_90 : decode cX4_laws 90 = .ok (.iload_n 3, 1) := by decide +kernel
theorem dX4_laws_91 : decode cX4_laws 91 = .ok (.iload 4, 2) := by decide +kernel
theorem dX4_laws_93 : decode cX4_laws 93 = .ok (.ior, 1) := by decide +kernel
theorem dX4_laws_94 : decode cX4_laws 94 = .ok (.istore_n 3, 1) := by decide +kernel
theorem dX4_laws_95 : decode cX4_laws 95 = .ok (.iload 4, 2) := by decide +kernel
theorem dX4_laws_97 : decode cX4_laws 97 = .ok (.iconst 2, 1) := by decide +kernel
theorem dX4_laws_98 : decode cX4_laws 98 = .ok (.imul, 1) := by decide +kernel
theorem dX4_laws_99 : decode cX4_laws 99 = .ok (.istore 4, 2) := by decide +kernel
theorem dX4_laws_101 : decode cX4_laws 101 = .ok (.goto (-40), 3) := by decide +kernel
theorem dX4_laws_104 : decode cX4_laws 104 = .ok (.aload_n 0, 1) := by decide +kernel
theorem dX4_laws_105 : decode cX4_laws 105 = .ok (.iload_n 3, 1) := by decide +kernel
theorem dX4_laws_106 : decode cX4_laws 106 = .ok (.putfield 50, 3) := by decide +kernel
theorem dX4_laws_109 : decode cX4_laws 109 = .ok (.iload_n 1, 1) := by decide +kernel
theorem dX4_laws_110 : decode cX4_laws 110 = .ok (.ireturn, 1) := by decide +kernel
theorem dX4_seats_0 : decode cX4_seats 0 = .ok (.iload_n 1, 1) := by decide +kernel
theorem dX4_seats_1 : decode cX4_seats 1 = .ok (.ifCond .lt 16, 3) := by decide +kernel
theorem dX4_seats_4 : decode cX4_seats 4 = .ok (.iload_n 1, 1) := by decide +kernel
theorem dX4_seats_5 : decode cX4_seats 5 = .ok (.bipush 20, 2) := by decide +kernel
theorem dX4_seats_7 : decode cX4_seats 7 = .ok (.if_icmp .gt 10, 3) := by decide +kernel
theorem dX4_seats_10 : decode cX4_seats 10 = .ok (.iload_n 2, 1) := by decide +kernel
theorem dX4_seats_11 : decode cX4_seats 11 = .ok (.invokestatic 63, 3) := by decide +kernel
theorem dX4_seats_14 : decode cX4_seats 14 = .ok (.ifCond .ne 5, 3) := by decide +kernel
theorem dX4_seats_17 : decode cX4_seats 17 = .ok (.iconst (-1), 1) := by decide +kernel
theorem dX4_seats_18 : decode cX4_seats 18 = .ok (.ireturn, 1) := by decide +kernel
theorem dX4_seats_19 : decode cX4_seats 19 = .ok (.aload_n 0, 1) := by decide +kernel
theorem dX4_seats_20 : decode cX4_seats 20 = .ok (.getfield 21, 3) := by decide +kernel
theorem dX4_seats_23 : decode cX4_seats 23 = .ok (.invokevirtual 170, 3) := by decide +kernel
theorem dX4_seats_26 : decode cX4_seats 26 = .ok (.ifCond .ne 6, 3) := by decide +kernel
theorem dX4_seats_29 : decode cX4_seats 29 = .ok (.bipush (-4), 2) := by decide +kernel
theorem dX4_seats_31 : decode cX4_seats 31 = .ok (.ireturn, 1) := by decide +kernel
theorem dX4_seats_32 : decode cX4_seats 32 = .ok (.aload_n 0, 1) := by decide +kernel
theorem dX4_seats_33 : decode cX4_seats 33 = .ok (.getfield 11, 3) := by decide +kernel
theorem dX4_seats_36 : decode cX4_seats 36 = .ok (.iload_n 2, 1) := by decide +kernel
theorem dX4_seats_37 : decode cX4_seats 37 = .ok (.aaload, 1) := by decide +kernel
theorem dX4_seats_38 : decode cX4_seats 38 = .ok (.astore_n 3, 1) := by decide +kernel
theorem dX4_seats_39 : decode cX4_seats 39 = .ok (.aload_n 3, 1) := by decide +kernel
theorem dX4_seats_40 : decode cX4_seats 40 = .ok (.aload_n 0, 1) := by decide +kernel
theorem dX4_seats_41 : decode cX4_seats 41 = .ok (.getfield 21, 3) := by decide +kernel
theorem dX4_seats_44 : decode cX4_seats 44 = .ok (.getfield 124, 3) := by decide +kernel
theorem dX4_seats_47 : decode cX4_seats 47 = .ok (.iconst 0, 1) := by decide +kernel
theorem dX4_seats_48 : decode cX4_seats 48 = .ok (.invokevirtual 71, 3) := by decide +kernel
theorem dX4_seats_51 : decode cX4_seats 51 = .ok (.iconst 0, 1) := by decide +kernel
theorem dX4_seats_52 : decode cX4_seats 52 = .ok (.istore 4, 2) := by decide +kernel
theorem dX4_seats_54 : decode cX4_seats 54 = .ok (.iconst 0, 1) := by decide +kernel
theorem dX4_seats_55 : decode cX4_seats 55 = .ok (.istore 5, 2) := by decide +kernel
theorem dX4_seats_57 : decode cX4_seats 57 = .ok (.iload 5, 2) := by decide +kernel
theorem dX4_seats_59 : decode cX4_seats 59 = .ok (.iload_n 1, 1) := by decide +kernel
theorem dX4_seats_60 : decode cX4_seats 60 = .ok (.if_icmp .ge 35, 3) := by decide +kernel
theorem dX4_seats_63 : decode cX4_seats 63 = .ok (.aload_n 0, 1) := by decide +kernel
theorem dX4_seats_64 : decode cX4_seats 64 = .ok (.aload_n 3, 1) := by decide +kernel
theorem dX4_seats_65 : decode cX4_seats 65 = .ok (.invokevirtual 230, 3) := by decide +kernel
theorem dX4_seats_68 : decode cX4_seats 68 = .ok (.istore 6, 2) := by decide +kernel
theorem dX4_seats_70 : decode cX4_seats 70 = .ok (.iload 6, 2) := by decide +kernel
theorem dX4_seats_72 : decode cX4_seats 72 = .ok (.ifCond .lt 17, 3) := by decide +kernel
theorem dX4_seats_75 : decode cX4_seats 75 = .ok (.aload_n 3, 1) := by decide +kernel
theorem dX4_seats_76 : decode cX4_seats 76 = .ok (.getfield 79, 3) := by decide +kernel
theorem dX4_seats_79 : decode cX4_seats 79 = .ok (.iload 6, 2) := by decide +kernel
theorem dX4_seats_81 : decode cX4_seats 81 = .ok (.dup2, 1) := by decide +kernel
theorem dX4_seats_82 : decode cX4_seats 82 = .ok (.iaload, 1) := by decide +kernel
theorem dX4_seats_83 : decode cX4_seats 83 = .ok (.iconst 1, 1) := by decide +kernel
theorem dX4_seats_84 : decode cX4_seats 84 = .ok (.iadd, 1) := by decide +kernel
theorem dX4_seats_85 : decode cX4_seats 85 = .ok (.iastore, 1) := by decide +kernel
theorem dX4_seats_86 : decode cX4_seats 86 = .ok (.iinc 4 1, 3) := by decide +kernel
theorem dX4_seats_89 : decode cX4_seats 89 = .ok (.iinc 5 1, 3) := by decide +kernel
theorem dX4_seats_92 : decode cX4_seats 92 = .ok (.goto (-35), 3) := by decide +kernel
theorem dX4_seats_95 : decode cX4_seats 95 = .ok (.iload 4, 2) := by decide +kernel
theorem dX4_seats_97 : decode cX4_seats 97 = .ok (.ireturn, 1) := by decide +kernel
theorem dX4_fewest_0 : decode cX4_fewest 0 = .ok (.aload_n 0, 1) := by decide +kernel
theorem dX4_fewest_1 : decode cX4_fewest 1 = .ok (.getfield 21, 3) := by decide +kernel
theorem dX4_fewest_4 : decode cX4_fewest 4 = .ok (.invokevirtual 170, 3) := by decide +kernel
theorem dX4_fewest_7 : decode cX4_fewest 7 = .ok (.ifCond .ne 6, 3) := by decide +kernel
theorem dX4_fewest_10 : decode cX4_fewest 10 = .ok (.bipush (-4), 2) := by decide +kernel
theorem dX4_fewest_12 : decode cX4_fewest 12 = .ok (.ireturn, 1) := by decide +kernel
theorem dX4_fewest_13 : decode cX4_fewest 13 = .ok (.aload_n 0, 1) := by decide +kernel
theorem dX4_fewest_14 : decode cX4_fewest 14 = .ok (.invokevirtual 234, 3) := by decide +kernel
theorem dX4_fewest_17 : decode cX4_fewest 17 = .ok (.istore_n 1, 1) := by decide +kernel
theorem dX4_fewest_18 : decode cX4_fewest 18 = .ok (.aload_n 0, 1) := by decide +kernel
theorem dX4_fewest_19 : decode cX4_fewest 19 = .ok (.getfield 21, 3) := by decide +kernel
theorem dX4_fewest_22 : decode cX4_fewest 22 = .ok (.iload_n 1, 1) := by decide +kernel
theorem dX4_fewest_23 : decode cX4_fewest 23 = .ok (.invokevirtual 237, 3) := by decide +kernel
theorem dX4_fewest_26 : decode cX4_fewest 26 = .ok (.istore_n 2, 1) := by decide +kernel
theorem dX4_fewest_27 : decode cX4_fewest 27 = .ok (.iconst 0, 1) := by decide +kernel
theorem dX4_fewest_28 : decode cX4_fewest 28 = .ok (.istore_n 3, 1) := by decide +kernel
theorem dX4_fewest_29 : decode cX4_fewest 29 = .ok (.iconst 1, 1) := by decide +kernel
theorem dX4_fewest_30 : decode cX4_fewest 30 = .ok (.istore 4, 2) := by decide +kernel
theorem dX4_fewest_32 : decode cX4_fewest 32 = .ok (.iload 4, 2) := by decide +kernel
theorem dX4_fewest_34 : decode cX4_fewest 34 = .ok (.iload_n 1, 1) := by decide +kernel
theorem dX4_fewest_35 : decode cX4_fewest 35 = .ok (.if_icmp .gt 52, 3) := by decide +kernel
theorem dX4_fewest_38 : decode cX4_fewest 38 = .ok (.iload 4, 2) := by decide +kernel
theorem dX4_fewest_40 : decode cX4_fewest 40 = .ok (.iload_n 1, 1) := by decide +kernel
theorem dX4_fewest_41 : decode cX4_fewest 41 = .ok (.iconst (-1), 1) := by decide +kernel
theorem dX4_fewest_42 : decode cX4_fewest 42 = .ok (.ixor, 1) := by decide +kernel
theorem dX4_fewest_43 : decode cX4_fewest 43 = .ok (.iand, 1) := by decide +kernel
theorem dX4_fewest_44 : decode cX4_fewest 44 = .ok (.ifCond .ne 37, 3) := by decide +kernel
theorem dX4_fewest_47 : decode cX4_fewest 47 = .ok (.iconst 2, 1) := by decide +kernel
theorem dX4_fewest_48 : decode cX4_fewest 48 = .ok (.aload_n 0, 1) := by decide +kernel
theorem dX4_fewest_49 : decode cX4_fewest 49 = .ok (.getfield 21, 3) := by decide +kernel
theorem dX4_fewest_52 : decode cX4_fewest 52 = .ok (.iload 4, 2) := by decide +kernel
theorem dX4_fewest_54 : decode cX4_fewest 54 = .ok (.invokevirtual 237, 3) := by decide +kernel
theorem dX4_fewest_57 : decode cX4_fewest 57 = .ok (.imul, 1) := by decide +kernel
theorem dX4_fewest_58 : decode cX4_fewest 58 = .ok (.iload_n 2, 1) := by decide +kernel
theorem dX4_fewest_59 : decode cX4_fewest 59 = .ok (.if_icmp .le 22, 3) := by decide +kernel
theorem dX4_fewest_62 : decode cX4_fewest 62 = .ok (.iload_n 3, 1) := by decide +kernel
theorem dX4_fewest_63 : decode cX4_fewest 63 = .ok (.ifCond .eq 15, 3) := by decide +kernel
theorem dX4_fewest_66 : decode cX4_fewest 66 = .ok (.iload 4, 2) := by decide +kernel
theorem dX4_fewest_68 : decode cX4_fewest 68 = .ok (.invokestatic 240, 3) := by decide +kernel
theorem dX4_fewest_71 : decode cX4_fewest 71 = .ok (.iload_n 3, 1) := by decide +kernel
theorem dX4_fewest_72 : decode cX4_fewest 72 = .ok (.invokestatic 240, 3) := by decide +kernel
theorem dX4_fewest_75 : decode cX4_fewest 75 = .ok (.if_icmp .ge 6, 3) := by decide +kernel
theorem dX4_fewest_78 : decode cX4_fewest 78 = .ok (.iload 4, 2) := by decide +kernel
theorem dX4_fewest_80 : decode cX4_fewest 80 = .ok (.istore_n 3, 1) := by decide +kernel
theorem dX4_fewest_81 : decode cX4_fewest 81 = .ok (.iinc 4 1, 3) := by decide +kernel
theorem dX4_fewest_84 : decode cX4_fewest 84 = .ok (.goto (-52), 3) := by decide +kernel
theorem dX4_fewest_87 : decode cX4_fewest 87 = .ok (.iload_n 3, 1) := by decide +kernel
theorem dX4_fewest_88 : decode cX4_fewest 88 = .ok (.ifCond .ne 6, 3) := by decide +kernel
theorem dX4_fewest_91 : decode cX4_fewest 91 = .ok (.bipush (-9), 2) := by decide +kernel
theorem dX4_fewest_93 : decode cX4_fewest 93 = .ok (.ireturn, 1) := by decide +kernel
theorem dX4_fewest_94 : decode cX4_fewest 94 = .ok (.aload_n 0, 1) := by decide +kernel
theorem dX4_fewest_95 : decode cX4_fewest 95 = .ok (.iload_n 3, 1) := by decide +kernel
theorem dX4_fewest_96 : decode cX4_fewest 96 = .ok (.putfield 50, 3) := by decide +kernel
theorem dX4_fewest_99 : decode cX4_fewest 99 = .ok (.iload_n 3, 1) := by decide +kernel
theorem dX4_fewest_100 : decode cX4_fewest 100 = .ok (.invokestatic 240, 3) := by decide +kernel
theorem dX4_fewest_103 : decode cX4_fewest 103 = .ok (.ireturn, 1) := by decide +kernel
theorem dX4_then_0 : decode cX4_then 0 = .ok (.iload_n 1, 1) := by decide +kernel
theorem dX4_then_1 : decode cX4_then 1 = .ok (.ifCond .lt 9, 3) := by decide +kernel
theorem dX4_then_4 : decode cX4_then 4 = .ok (.iload_n 1, 1) := by decide +kernel
theorem dX4_then_5 : decode cX4_then 5 = .ok (.bipush 30, 2) := by decide +kernel
theorem dX4_then_7 : decode cX4_then 7 = .ok (.if_icmp .le 5, 3) := by decide +kernel
theorem dX4_then_10 : decode cX4_then 10 = .ok (.iconst (-1), 1) := by decide +kernel
theorem dX4_then_11 : decode cX4_then 11 = .ok (.ireturn, 1) := by decide +kernel
theorem dX4_then_12 : decode cX4_then 12 = .ok (.aload_n 0, 1) := by decide +kernel
theorem dX4_then_13 : decode cX4_then 13 = .ok (.getfield 21, 3) := by decide +kernel
theorem dX4_then_16 : decode cX4_then 16 = .ok (.invokevirtual 170, 3) := by decide +kernel
theorem dX4_then_19 : decode cX4_then 19 = .ok (.ifCond .ne 6, 3) := by decide +kernel
theorem dX4_then_22 : decode cX4_then 22 = .ok (.bipush (-4), 2) := by decide +kernel
theorem dX4_then_24 : decode cX4_then 24 = .ok (.ireturn, 1) := by decide +kernel
theorem dX4_then_25 : decode cX4_then 25 = .ok (.aload_n 0, 1) := by decide +kernel
theorem dX4_then_26 : decode cX4_then 26 = .ok (.getfield 21, 3) := by decide +kernel
theorem dX4_then_29 : decode cX4_then 29 = .ok (.invokevirtual 245, 3) := by decide +kernel
theorem dX4_then_32 : decode cX4_then 32 = .ok (.istore_n 2, 1) := by decide +kernel
theorem dX4_then_33 : decode cX4_then 33 = .ok (.iconst 0, 1) := by decide +kernel
theorem dX4_then_34 : decode cX4_then 34 = .ok (.istore_n 3, 1) := by decide +kernel
theorem dX4_then_35 : decode cX4_then 35 = .ok (.iload_n 3, 1) := by decide +kernel
theorem dX4_then_36 : decode cX4_then 36 = .ok (.iload_n 1, 1) := by decide +kernel
theorem dX4_then_37 : decode cX4_then 37 = .ok (.if_icmp .ge 18, 3) := by decide +kernel
theorem dX4_then_40 : decode cX4_then 40 = .ok (.aload_n 0, 1) := by decide +kernel
theorem dX4_then_41 : decode cX4_then 41 = .ok (.getfield 21, 3) := by decide +kernel
theorem dX4_then_44 : decode cX4_then 44 = .ok (.iload_n 2, 1) := by decide +kernel
theorem dX4_then_45 : decode cX4_then 45 = .ok (.invokevirtual 248, 3) := by decide +kernel
theorem dX4_then_48 : decode cX4_then 48 = .ok (.istore_n 2, 1) := by decide +kernel
theorem dX4_then_49 : decode cX4_then 49 = .ok (.iinc 3 1, 3) := by decide +kernel
theorem dX4_then_52 : decode cX4_then 52 = .ok (.goto (-17), 3) := by decide +kernel
theorem dX4_then_55 : decode cX4_then 55 = .ok (.aload_n 0, 1) := by decide +kernel
theorem dX4_then_56 : decode cX4_then 56 = .ok (.aload_n 0, 1) := by decide +kernel
theorem dX4_then_57 : decode cX4_then 57 = .ok (.getfield 21, 3) := by decide +kernel
theorem dX4_then_60 : decode cX4_then 60 = .ok (.iload_n 2, 1) := by decide +kernel
theorem dX4_then_61 : decode cX4_then 61 = .ok (.invokestatic 251, 3) := by decide +kernel
theorem dX4_then_64 : decode cX4_then 64 = .ok (.iload_n 2, 1) := by decide +kernel
theorem dX4_then_65 : decode cX4_then 65 = .ok (.invokestatic 254, 3) := by decide +kernel
theorem dX4_then_68 : decode cX4_then 68 = .ok (.invokevirtual 218, 3) := by decide +kernel
theorem dX4_then_71 : decode cX4_then 71 = .ok (.putfield 50, 3) := by decide +kernel
theorem dX4_then_74 : decode cX4_then 74 = .ok (.iload_n 2, 1) := by decide +kernel
theorem dX4_then_75 : decode cX4_then 75 = .ok (.ireturn, 1) := by decide +kernel
theorem dX4_when_0 : decode cX4_when 0 = .ok (.aload_n 0, 1) := by decide +kernel
theorem dX4_when_1 : decode cX4_when 1 = .ok (.getfield 21, 3) := by decide +kernel
theorem dX4_when_4 : decode cX4_when 4 = .ok (.invokevirtual 170, 3) := by decide +kernel
theorem dX4_when_7 : decode cX4_when 7 = .ok (.ifCond .ne 6, 3) := by decide +kernel
theorem dX4_when_10 : decode cX4_when 10 = .ok (.bipush (-4), 2) := by decide +kernel
theorem dX4_when_12 : decode cX4_when 12 = .ok (.ireturn, 1) := by decide +kernel
theorem dX4_when_13 : decode cX4_when 13 = .ok (.aload_n 0, 1) := by decide +kernel
theorem dX4_when_14 : decode cX4_when 14 = .ok (.getfield 21, 3) := by decide +kernel
theorem dX4_when_17 : decode cX4_when 17 = .ok (.iload_n 1, 1) := by decide +kernel
theorem dX4_when_18 : decode cX4_when 18 = .ok (.iload_n 2, 1) := by decide +kernel
theorem dX4_when_19 : decode cX4_when 19 = .ok (.invokevirtual 257, 3) := by decide +kernel
theorem dX4_when_22 : decode cX4_when 22 = .ok (.ifCond .ne 5, 3) := by decide +kernel
theorem dX4_when_25 : decode cX4_when 25 = .ok (.iconst (-1), 1) := by decide +kernel
theorem dX4_when_26 : decode cX4_when 26 = .ok (.ireturn, 1) := by decide +kernel
theorem dX4_when_27 : decode cX4_when 27 = .ok (.iload_n 1, 1) := by decide +kernel
theorem dX4_when_28 : decode cX4_when 28 = .ok (.iload_n 2, 1) := by decide +kernel
theorem dX4_when_29 : decode cX4_when 29 = .ok (.invokestatic 260, 3) := by decide +kernel
theorem dX4_when_32 : decode cX4_when 32 = .ok (.istore_n 3, 1) := by decide +kernel
theorem dX4_when_33 : decode cX4_when 33 = .ok (.aload_n 0, 1) := by decide +kernel
theorem dX4_when_34 : decode cX4_when 34 = .ok (.getfield 21, 3) := by decide +kernel
theorem dX4_when_37 : decode cX4_when 37 = .ok (.invokevirtual 245, 3) := by decide +kernel
theorem dX4_when_40 : decode cX4_when 40 = .ok (.istore 4, 2) := by decide +kernel
theorem dX4_when_42 : decode cX4_when 42 = .ok (.iconst 0, 1) := by decide +kernel
theorem dX4_when_43 : decode cX4_when 43 = .ok (.istore 5, 2) := by decide +kernel
theorem dX4_when_45 : decode cX4_when 45 = .ok (.iload 5, 2) := by decide +kernel
theorem dX4_when_47 : decode cX4_when 47 = .ok (.bipush 30, 2) := by decide +kernel
theorem dX4_when_49 : decode cX4_when 49 = .ok (.if_icmp .gt 29, 3) := by decide +kernel
theorem dX4_when_52 : decode cX4_when 52 = .ok (.iload 4, 2) := by decide +kernel
theorem dX4_when_54 : decode cX4_when 54 = .ok (.iload_n 3, 1) := by decide +kernel
theorem dX4_when_55 : decode cX4_when 55 = .ok (.if_icmp .ne 6, 3) := by decide +kernel
theorem dX4_when_58 : decode cX4_when 58 = .ok (.iload 5, 2) := by decide +kernel
theorem dX4_when_60 : decode cX4_when 60 = .ok (.ireturn, 1) := by decide +kernel
theorem dX4_when_61 : decode cX4_when 61 = .ok (.aload_n 0, 1) := by decide +kernel
theorem dX4_when_62 : decode cX4_when 62 = .ok (.getfield 21, 3) := by decide +kernel
theorem dX4_when_65 : decode cX4_when 65 = .ok (.iload 4, 2) := by decide +kernel
theorem dX4_when_67 : decode cX4_when 67 = .ok (.invokevirtual 248, 3) := by decide +kernel
theorem dX4_when_70 : decode cX4_when 70 = .ok (.istore 4, 2) := by decide +kernel
theorem dX4_when_72 : decode cX4_when 72 = .ok (.iinc 5 1, 3) := by decide +kernel
theorem dX4_when_75 : decode cX4_when 75 = .ok (.goto (-30), 3) := by decide +kernel
theorem dX4_when_78 : decode cX4_when 78 = .ok (.bipush (-9), 2) := by decide +kernel
theorem dX4_when_80 : decode cX4_when 80 = .ok (.ireturn, 1) := by decide +kernel
theorem dX4_round_0 : decode cX4_round 0 = .ok (.aload_n 0, 1) := by decide +kernel
theorem dX4_round_1 : decode cX4_round 1 = .ok (.getfield 21, 3) := by decide +kernel
theorem dX4_round_4 : decode cX4_round 4 = .ok (.invokevirtual 170, 3) := by decide +kernel
theorem dX4_round_7 : decode cX4_round 7 = .ok (.ifCond .ne 6, 3) := by decide +kernel
theorem dX4_round_10 : decode cX4_round 10 = .ok (.bipush (-4), 2) := by decide +kernel
theorem dX4_round_12 : decode cX4_round 12 = .ok (.ireturn, 1) := by decide +kernel
theorem dX4_round_13 : decode cX4_round 13 = .ok (.aload_n 0, 1) := by decide +kernel
theorem dX4_round_14 : decode cX4_round 14 = .ok (.getfield 39, 3) := by decide +kernel
theorem dX4_round_17 : decode cX4_round 17 = .ok (.iconst 0, 1) := by decide +kernel
theorem dX4_round_18 : decode cX4_round 18 = .ok (.aload_n 0, 1) := by decide +kernel
theorem dX4_round_19 : decode cX4_round 19 = .ok (.getfield 21, 3) := by decide +kernel
theorem dX4_round_22 : decode cX4_round 22 = .ok (.invokevirtual 245, 3) := by decide +kernel
theorem dX4_round_25 : decode cX4_round 25 = .ok (.iastore, 1) := by decide +kernel
theorem dX4_round_26 : decode cX4_round 26 = .ok (.iconst 1, 1) := by decide +kernel
theorem dX4_round_27 : decode cX4_round 27 = .ok (.istore_n 1, 1) := by decide +kernel
theorem dX4_round_28 : decode cX4_round 28 = .ok (.iload_n 1, 1) := by decide +kernel
theorem dX4_round_29 : decode cX4_round 29 = .ok (.bipush 55, 2) := by decide +kernel
theorem dX4_round_31 : decode cX4_round 31 = .ok (.if_icmp .gt 68, 3) := by decide +kernel
theorem dX4_round_34 : decode cX4_round 34 = .ok (.aload_n 0, 1) := by decide +kernel
theorem dX4_round_35 : decode cX4_round 35 = .ok (.getfield 39, 3) := by decide +kernel
theorem dX4_round_38 : decode cX4_round 38 = .ok (.iload_n 1, 1) := by decide +kernel
theorem dX4_round_39 : decode cX4_round 39 = .ok (.aload_n 0, 1) := by decide +kernel
theorem dX4_round_40 : decode cX4_round 40 = .ok (.getfield 21, 3) := by decide +kernel
theorem dX4_round_43 : decode cX4_round 43 = .ok (.aload_n 0, 1) := by decide +kernel
theorem dX4_round_44 : decode cX4_round 44 = .ok (.getfield 39, 3) := by decide +kernel
theorem dX4_round_47 : decode cX4_round 47 = .ok (.iload_n 1, 1) := by decide +kernel
theorem dX4_round_48 : decode cX4_round 48 = .ok (.iconst 1, 1) := by decide +kernel
theorem dX4_round_49 : decode cX4_round 49 = .ok (.isub, 1) := by decide +kernel
theorem dX4_round_50 : decode cX4_round 50 = .ok (.iaload, 1) := by decide +kernel
theorem dX4_round_51 : decode cX4_round 51 = .ok (.invokevirtual 248, 3) := by decide +kernel
theorem dX4_round_54 : decode cX4_round 54 = .ok (.iastore, 1) := by decide +kernel
theorem dX4_round_55 : decode cX4_round 55 = .ok (.iload_n 1, 1) := by decide +kernel
theorem dX4_round_56 : decode cX4_round 56 = .ok (.iconst 1, 1) := by decide +kernel
theorem dX4_round_57 : decode cX4_round 57 = .ok (.isub, 1) := by decide +kernel
theorem dX4_round_58 : decode cX4_round 58 = .ok (.istore_n 2, 1) := by decide +kernel
theorem dX4_round_59 : decode cX4_round 59 = .ok (.iload_n 2, 1) := by decide +kernel
theorem dX4_round_60 : decode cX4_round 60 = .ok (.ifCond .lt 33, 3) := by decide +kernel
theorem dX4_round_63 : decode cX4_round 63 = .ok (.aload_n 0, 1) := by decide +kernel
theorem dX4_round_64 : decode cX4_round 64 = .ok (.getfield 39, 3) := by decide +kernel
theorem dX4_round_67 : decode cX4_round 67 = .ok (.iload_n 2, 1) := by decide +kernel
theorem dX4_round_68 : decode cX4_round 68 = .ok (.iaload, 1) := by decide +kernel
theorem dX4_round_69 : decode cX4_round 69 = .ok (.aload_n 0, 1) := by decide +kernel
theorem dX4_round_70 : decode cX4_round 70 = .ok (.getfield 39, 3) := by decide +kernel
theorem dX4_round_73 : decode cX4_round 73 = .ok (.iload_n 1, 1) := by decide +kernel
theorem dX4_round_74 : decode cX4_round 74 = .ok (.iaload, 1) := by decide +kernel
theorem dX4_round_75 : decode cX4_round 75 = .ok (.if_icmp .ne 12, 3) := by decide +kernel
theorem dX4_round_78 : decode cX4_round 78 = .ok (.aload_n 0, 1) := by decide +kernel
theorem dX4_round_79 : decode cX4_round 79 = .ok (.iload_n 1, 1) := by decide +kernel
theorem dX4_round_80 : decode cX4_round 80 = .ok (.iload_n 2, 1) := by decide +kernel
theorem dX4_round_81 : decode cX4_round 81 = .ok (.isub, 1) := by decide +kernel
theorem dX4_round_82 : decode cX4_round 82 = .ok (.putfield 50, 3) := by decide +kernel
theorem dX4_round_85 : decode cX4_round 85 = .ok (.iload_n 1, 1) := by decide +kernel
theorem dX4_round_86 : decode cX4_round 86 = .ok (.ireturn, 1) := by decide +kernel
theorem dX4_round_87 : decode cX4_round 87 = .ok (.iinc 2 (-1), 3) := by decide +kernel
theorem dX4_round_90 : decode cX4_round 90 = .ok (.goto (-31), 3) := by decide +kernel
theorem dX4_round_93 : decode cX4_round 93 = .ok (.iinc 1 1, 3) := by decide +kernel
theorem dX4_round_96 : decode cX4_round 96 = .ok (.goto (-68), 3) := by decide +kernel
theorem dX4_round_99 : decode cX4_round 99 = .ok (.bipush (-9), 2) := by decide +kernel
theorem dX4_round_101 : decode cX4_round 101 = .ok (.ireturn, 1) := by decide +kernel
theorem dX4_duel_0 : decode cX4_duel 0 = .ok (.iload_n 1, 1) := by decide +kernel
theorem dX4_duel_1 : decode cX4_duel 1 = .ok (.ifCond .lt 9, 3) := by decide +kernel
theorem dX4_duel_4 : decode cX4_duel 4 = .ok (.iload_n 1, 1) := by decide +kernel
theorem dX4_duel_5 : decode cX4_duel 5 = .ok (.bipush 6, 2) := by decide +kernel
theorem dX4_duel_7 : decode cX4_duel 7 = .ok (.if_icmp .le 5, 3) := by decide +kernel
theorem dX4_duel_10 : decode cX4_duel 10 = .ok (.iconst (-1), 1) := by decide +kernel
theorem dX4_duel_11 : decode cX4_duel 11 = .ok (.ireturn, 1) := by decide +kernel
theorem dX4_duel_12 : decode cX4_duel 12 = .ok (.aload_n 0, 1) := by decide +kernel
theorem dX4_duel_13 : decode cX4_duel 13 = .ok (.getfield 21, 3) := by decide +kernel
theorem dX4_duel_16 : decode cX4_duel 16 = .ok (.invokevirtual 170, 3) := by decide +kernel
theorem dX4_duel_19 : decode cX4_duel 19 = .ok (.ifCond .ne 6, 3) := by decide +kernel
theorem dX4_duel_22 : decode cX4_duel 22 = .ok (.bipush (-4), 2) := by decide +kernel
theorem dX4_duel_24 : decode cX4_duel 24 = .ok (.ireturn, 1) := by decide +kernel
theorem dX4_duel_25 : decode cX4_duel 25 = .ok (.aload_n 0, 1) := by decide +kernel
theorem dX4_duel_26 : decode cX4_duel 26 = .ok (.getfield 21, 3) := by decide +kernel
theorem dX4_duel_29 : decode cX4_duel 29 = .ok (.iload_n 1, 1) := by decide +kernel
theorem dX4_duel_30 : decode cX4_duel 30 = .ok (.iconst 0, 1) := by decide +kernel
theorem dX4_duel_31 : decode cX4_duel 31 = .ok (.aload_n 0, 1) := by decide +kernel
theorem dX4_duel_32 : decode cX4_duel 32 = .ok (.getfield 21, 3) := by decide +kernel
theorem dX4_duel_35 : decode cX4_duel 35 = .ok (.getfield 158, 3) := by decide +kernel
theorem dX4_duel_38 : decode cX4_duel 38 = .ok (.aload_n 0, 1) := by decide +kernel
theorem dX4_duel_39 : decode cX4_duel 39 = .ok (.getfield 21, 3) := by decide +kernel
theorem dX4_duel_42 : decode cX4_duel 42 = .ok (.getfield 161, 3) := by decide +kernel
theorem dX4_duel_45 : decode cX4_duel 45 = .ok (.invokestatic 263, 3) := by decide +kernel
theorem dX4_duel_48 : decode cX4_duel 48 = .ok (.ireturn, 1) := by decide +kernel
theorem dX4_peace_0 : decode cX4_peace 0 = .ok (.iload_n 1, 1) := by decide +kernel
theorem dX4_peace_1 : decode cX4_peace 1 = .ok (.ifCond .lt 16, 3) := by decide +kernel
theorem dX4_peace_4 : decode cX4_peace 4 = .ok (.iload_n 1, 1) := by decide +kernel
theorem dX4_peace_5 : decode cX4_peace 5 = .ok (.bipush 99, 2) := by decide +kernel
theorem dX4_peace_7 : decode cX4_peace 7 = .ok (.if_icmp .gt 10, 3) := by decide +kernel
theorem dX4_peace_10 : decode cX4_peace 10 = .ok (.iload_n 2, 1) := by decide +kernel
theorem dX4_peace_11 : decode cX4_peace 11 = .ok (.invokestatic 63, 3) := by decide +kernel
theorem dX4_peace_14 : decode cX4_peace 14 = .ok (.ifCond .ne 5, 3) := by decide +kernel
theorem dX4_peace_17 : decode cX4_peace 17 = .ok (.iconst (-1), 1) := by decide +kernel
theorem dX4_peace_18 : decode cX4_peace 18 = .ok (.ireturn, 1) := by decide +kernel
theorem dX4_peace_19 : decode cX4_peace 19 = .ok (.aload_n 0, 1) := by decide +kernel
theorem dX4_peace_20 : decode cX4_peace 20 = .ok (.getfield 21, 3) := by decide +kernel
theorem dX4_peace_23 : decode cX4_peace 23 = .ok (.invokevirtual 170, 3) := by decide +kernel
theorem dX4_peace_26 : decode cX4_peace 26 = .ok (.ifCond .ne 6, 3) := by decide +kernel
theorem dX4_peace_29 : decode cX4_peace 29 = .ok (.bipush (-4), 2) := by decide +kernel
theorem dX4_peace_31 : decode cX4_peace 31 = .ok (.ireturn, 1) := by decide +kernel
theorem dX4_peace_32 : decode cX4_peace 32 = .ok (.aload_n 0, 1) := by decide +kernel
theorem dX4_peace_33 : decode cX4_peace 33 = .ok (.getfield 21, 3) := by decide +kernel
theorem dX4_peace_36 : decode cX4_peace 36 = .ok (.aload_n 0, 1) := by decide +kernel
theorem dX4_peace_37 : decode cX4_peace 37 = .ok (.getfield 21, 3) := by decide +kernel
theorem dX4_peace_40 : decode cX4_peace 40 = .ok (.getfield 158, 3) := by decide +kernel
theorem dX4_peace_43 : decode cX4_peace 43 = .ok (.aload_n 0, 1) := by decide +kernel
theorem dX4_peace_44 : decode cX4_peace 44 = .ok (.getfield 21, 3) := by decide +kernel
theorem dX4_peace_47 : decode cX4_peace 47 = .ok (.getfield 161, 3) := by decide +kernel
theorem dX4_peace_50 : decode cX4_peace 50 = .ok (.invokevirtual 173, 3) := by decide +kernel
theorem dX4_peace_53 : decode cX4_peace 53 = .ok (.istore_n 3, 1) := by decide +kernel
theorem dX4_peace_54 : decode cX4_peace 54 = .ok (.iload_n 3, 1) := by decide +kernel
theorem dX4_peace_55 : decode cX4_peace 55 = .ok (.ifCond .gt 6, 3) := by decide +kernel
theorem dX4_peace_58 : decode cX4_peace 58 = .ok (.bipush (-4), 2) := by decide +kernel
theorem dX4_peace_60 : decode cX4_peace 60 = .ok (.ireturn, 1) := by decide +kernel
theorem dX4_peace_61 : decode cX4_peace 61 = .ok (.aload_n 0, 1) := by decide +kernel
theorem dX4_peace_62 : decode cX4_peace 62 = .ok (.getfield 11, 3) := by decide +kernel
theorem dX4_peace_65 : decode cX4_peace 65 = .ok (.iload_n 2, 1) := by decide +kernel
theorem dX4_peace_66 : decode cX4_peace 66 = .ok (.aaload, 1) := by decide +kernel
theorem dX4_peace_67 : decode cX4_peace 67 = .ok (.astore 4, 2) := by decide +kernel
theorem dX4_peace_69 : decode cX4_peace 69 = .ok (.aload_n 0, 1) := by decide +kernel
theorem dX4_peace_70 : decode cX4_peace 70 = .ok (.iload_n 1, 1) := by decide +kernel
theorem dX4_peace_71 : decode cX4_peace 71 = .ok (.iload_n 3, 1) := by decide +kernel
theorem dX4_peace_72 : decode cX4_peace 72 = .ok (.aload 4, 2) := by decide +kernel
theorem dX4_peace_74 : decode cX4_peace 74 = .ok (.invokevirtual 267, 3) := by decide +kernel
theorem dX4_peace_77 : decode cX4_peace 77 = .ok (.iconst 0, 1) := by decide +kernel
theorem dX4_peace_78 : decode cX4_peace 78 = .ok (.istore 5, 2) := by decide +kernel
theorem dX4_peace_80 : decode cX4_peace 80 = .ok (.iload 5, 2) := by decide +kernel
theorem dX4_peace_82 : decode cX4_peace 82 = .ok (.aload_n 0, 1) := by decide +kernel
theorem dX4_peace_83 : decode cX4_peace 83 = .ok (.getfield 21, 3) := by decide +kernel
theorem dX4_peace_86 : decode cX4_peace 86 = .ok (.getfield 124, 3) := by decide +kernel
theorem dX4_peace_89 : decode cX4_peace 89 = .ok (.if_icmp .ge 41, 3) := by decide +kernel
theorem dX4_peace_92 : decode cX4_peace 92 = .ok (.aload_n 0, 1) := by decide +kernel
theorem dX4_peace_93 : decode cX4_peace 93 = .ok (.getfield 21, 3) := by decide +kernel
theorem dX4_peace_96 : decode cX4_peace 96 = .ok (.iload 5, 2) := by decide +kernel
theorem dX4_peace_98 : decode cX4_peace 98 = .ok (.invokevirtual 199, 3) := by decide +kernel
theorem dX4_peace_101 : decode cX4_peace 101 = .ok (.ifCond .eq 23, 3) := by decide +kernel
theorem dX4_peace_104 : decode cX4_peace 104 = .ok (.aload_n 0, 1) := by decide +kernel
theorem dX4_peace_105 : decode cX4_peace 105 = .ok (.iload 5, 2) := by decide +kernel
theorem dX4_peace_107 : decode cX4_peace 107 = .ok (.aload 4, 2) := by decide +kernel
theorem dX4_peace_109 : decode cX4_peace 109 = .ok (.invokevirtual 271, 3) := by decide +kernel
theorem dX4_peace_112 : decode cX4_peace 112 = .ok (.ifCond .eq 12, 3) := by decide +kernel
theorem dX4_peace_115 : decode cX4_peace 115 = .ok (.aload 4, 2) := by decide +kernel
theorem dX4_peace_117 : decode cX4_peace 117 = .ok (.getfield 79, 3) := by decide +kernel
theorem dX4_peace_120 : decode cX4_peace 120 = .ok (.iload 5, 2) := by decide +kernel
theorem dX4_peace_122 : decode cX4_peace 122 = .ok (.iaload, 1) := by decide +kernel
theorem dX4_peace_123 : decode cX4_peace 123 = .ok (.ireturn, 1) := by decide +kernel
theorem dX4_peace_124 : decode cX4_peace 124 = .ok (.iinc 5 1, 3) := by decide +kernel
theorem dX4_peace_127 : decode cX4_peace 127 = .ok (.goto (-47), 3) := by decide +kernel
theorem dX4_peace_130 : decode cX4_peace 130 = .ok (.bipush (-9), 2) := by decide +kernel
theorem dX4_peace_132 : decode cX4_peace 132 = .ok (.ireturn, 1) := by decide +kernel
theorem dX4_way_0 : decode cX4_way 0 = .ok (.aload_n 0, 1) := by decide +kernel
theorem dX4_way_1 : decode cX4_way 1 = .ok (.getfield 21, 3) := by decide +kernel
theorem dX4_way_4 : decode cX4_way 4 = .ok (.iload_n 1, 1) := by decide +kernel
theorem dX4_way_5 : decode cX4_way 5 = .ok (.invokevirtual 196, 3) := by decide +kernel
theorem dX4_way_8 : decode cX4_way 8 = .ok (.ifCond .eq 14, 3) := by decide +kernel
theorem dX4_way_11 : decode cX4_way 11 = .ok (.aload_n 0, 1) := by decide +kernel
theorem dX4_way_12 : decode cX4_way 12 = .ok (.getfield 21, 3) := by decide +kernel
theorem dX4_way_15 : decode cX4_way 15 = .ok (.iload_n 2, 1) := by decide +kernel
theorem dX4_way_16 : decode cX4_way 16 = .ok (.invokevirtual 196, 3) := by decide +kernel
theorem dX4_way_19 : decode cX4_way 19 = .ok (.ifCond .ne 5, 3) := by decide +kernel
theorem dX4_way_22 : decode cX4_way 22 = .ok (.iconst (-1), 1) := by decide +kernel
theorem dX4_way_23 : decode cX4_way 23 = .ok (.ireturn, 1) := by decide +kernel
theorem dX4_way_24 : decode cX4_way 24 = .ok (.aload_n 0, 1) := by decide +kernel
theorem dX4_way_25 : decode cX4_way 25 = .ok (.getfield 21, 3) := by decide +kernel
theorem dX4_way_28 : decode cX4_way 28 = .ok (.iload_n 1, 1) := by decide +kernel
theorem dX4_way_29 : decode cX4_way 29 = .ok (.iload_n 2, 1) := by decide +kernel
theorem dX4_way_30 : decode cX4_way 30 = .ok (.invokevirtual 275, 3) := by decide +kernel
theorem dX4_way_33 : decode cX4_way 33 = .ok (.ireturn, 1) := by decide +kernel
theorem dX4_far_0 : decode cX4_far 0 = .ok (.aload_n 0, 1) := by decide +kernel
theorem dX4_far_1 : decode cX4_far 1 = .ok (.getfield 21, 3) := by decide +kernel
theorem dX4_far_4 : decode cX4_far 4 = .ok (.iload_n 1, 1) := by decide +kernel
theorem dX4_far_5 : decode cX4_far 5 = .ok (.invokevirtual 196, 3) := by decide +kernel
theorem dX4_far_8 : decode cX4_far 8 = .ok (.ifCond .ne 5, 3) := by decide +kernel
theorem dX4_far_11 : decode cX4_far 11 = .ok (.iconst (-1), 1) := by decide +kernel
theorem dX4_far_12 : decode cX4_far 12 = .ok (.ireturn, 1) := by decide +kernel
theorem dX4_far_13 : decode cX4_far 13 = .ok (.iconst 0, 1) := by decide +kernel
theorem dX4_far_14 : decode cX4_far 14 = .ok (.istore_n 2, 1) := by decide +kernel
theorem dX4_far_15 : decode cX4_far 15 = .ok (.iconst 1, 1) := by decide +kernel
theorem dX4_far_16 : decode cX4_far 16 = .ok (.istore_n 3, 1) := by decide +kernel
theorem dX4_far_17 : decode cX4_far 17 = .ok (.iload_n 3, 1) := by decide +kernel
theorem dX4_far_18 : decode cX4_far 18 = .ok (.aload_n 0, 1) := by decide +kernel
theorem dX4_far_19 : decode cX4_far 19 = .ok (.getfield 21, 3) := by decide +kernel
theorem dX4_far_22 : decode cX4_far 22 = .ok (.getfield 121, 3) := by decide +kernel
theorem dX4_far_25 : decode cX4_far 25 = .ok (.if_icmp .ge 30, 3) := by decide +kernel
theorem dX4_far_28 : decode cX4_far 28 = .ok (.aload_n 0, 1) := by decide +kernel
theorem dX4_far_29 : decode cX4_far 29 = .ok (.getfield 21, 3) := by decide +kernel
theorem dX4_far_32 : decode cX4_far 32 = .ok (.iload_n 3, 1) := by decide +kernel
theorem dX4_far_33 : decode cX4_far 33 = .ok (.invokevirtual 278, 3) := by decide +kernel
theorem dX4_far_36 : decode cX4_far 36 = .ok (.aload_n 0, 1) := by decide +kernel
theorem dX4_far_37 : decode cX4_far 37 = .ok (.getfield 21, 3) := by decide +kernel
theorem dX4_far_40 : decode cX4_far 40 = .ok (.iload_n 2, 1) := by decide +kernel
theorem dX4_far_41 : decode cX4_far 41 = .ok (.invokevirtual 278, 3) := by decide +kernel
theorem dX4_far_44 : decode cX4_far 44 = .ok (.if_icmp .ge 5, 3) := by decide +kernel
theorem dX4_far_47 : decode cX4_far 47 = .ok (.iload_n 3, 1) := by decide +kernel
theorem dX4_far_48 : decode cX4_far 48 = .ok (.istore_n 2, 1) := by decide +kernel
theorem dX4_far_49 : decode cX4_far 49 = .ok (.iinc 3 1, 3) := by decide +kernel
theorem dX4_far_52 : decode cX4_far 52 = .ok (.goto (-35), 3) := by decide +kernel
theorem dX4_far_55 : decode cX4_far 55 = .ok (.aload_n 0, 1) := by decide +kernel
theorem dX4_far_56 : decode cX4_far 56 = .ok (.iload_n 2, 1) := by decide +kernel
theorem dX4_far_57 : decode cX4_far 57 = .ok (.putfield 50, 3) := by decide +kernel
theorem dX4_far_60 : decode cX4_far 60 = .ok (.aload_n 0, 1) := by decide +kernel
theorem dX4_far_61 : decode cX4_far 61 = .ok (.getfield 21, 3) := by decide +kernel
theorem dX4_far_64 : decode cX4_far 64 = .ok (.iload_n 1, 1) := by decide +kernel
theorem dX4_far_65 : decode cX4_far 65 = .ok (.invokevirtual 278, 3) := by decide +kernel
theorem dX4_far_68 : decode cX4_far 68 = .ok (.ireturn, 1) := by decide +kernel
theorem dX4_kinds_0 : decode cX4_kinds 0 = .ok (.aload_n 0, 1) := by decide +kernel
theorem dX4_kinds_1 : decode cX4_kinds 1 = .ok (.iload_n 1, 1) := by decide +kernel
theorem dX4_kinds_2 : decode cX4_kinds 2 = .ok (.iload_n 2, 1) := by decide +kernel
theorem dX4_kinds_3 : decode cX4_kinds 3 = .ok (.invokevirtual 281, 3) := by decide +kernel
theorem dX4_kinds_6 : decode cX4_kinds 6 = .ok (.istore_n 3, 1) := by decide +kernel
theorem dX4_kinds_7 : decode cX4_kinds 7 = .ok (.iload_n 3, 1) := by decide +kernel
theorem dX4_kinds_8 : decode cX4_kinds 8 = .ok (.ifCond .eq 5, 3) := by decide +kernel
theorem dX4_kinds_11 : decode cX4_kinds 11 = .ok (.iload_n 3, 1) := by decide +kernel
theorem dX4_kinds_12 : decode cX4_kinds 12 = .ok (.ireturn, 1) := by decide +kernel
theorem dX4_kinds_13 : decode cX4_kinds 13 = .ok (.iconst 0, 1) := by decide +kernel
theorem dX4_kinds_14 : decode cX4_kinds 14 = .ok (.istore 4, 2) := by decide +kernel
theorem dX4_kinds_16 : decode cX4_kinds 16 = .ok (.iconst 0, 1) := by decide +kernel
theorem dX4_kinds_17 : decode cX4_kinds 17 = .ok (.istore 5, 2) := by decide +kernel
theorem dX4_kinds_19 : decode cX4_kinds 19 = .ok (.iload 5, 2) := by decide +kernel
theorem dX4_kinds_21 : decode cX4_kinds 21 = .ok (.iconst 5, 1) := by decide +kernel
theorem dX4_kinds_22 : decode cX4_kinds 22 = .ok (.if_icmp .gt 51, 3) := by decide +kernel
theorem dX4_kinds_25 : decode cX4_kinds 25 = .ok (.aload_n 0, 1) := by decide +kernel
theorem dX4_kinds_26 : decode cX4_kinds 26 = .ok (.iload 5, 2) := by decide +kernel
theorem dX4_kinds_28 : decode cX4_kinds 28 = .ok (.aload_n 0, 1) := by decide +kernel
theorem dX4_kinds_29 : decode cX4_kinds 29 = .ok (.getfield 21, 3) := by decide +kernel
theorem dX4_kinds_32 : decode cX4_kinds 32 = .ok (.getfield 137, 3) := by decide +kernel
theorem dX4_kinds_35 : decode cX4_kinds 35 = .ok (.iload_n 1, 1) := by decide +kernel
theorem dX4_kinds_36 : decode cX4_kinds 36 = .ok (.iaload, 1) := by decide +kernel
theorem dX4_kinds_37 : decode cX4_kinds 37 = .ok (.aload_n 0, 1) := by decide +kernel
theorem dX4_kinds_38 : decode cX4_kinds 38 = .ok (.getfield 21, 3) := by decide +kernel
theorem dX4_kinds_41 : decode cX4_kinds 41 = .ok (.getfield 140, 3) := by decide +kernel
theorem dX4_kinds_44 : decode cX4_kinds 44 = .ok (.iload_n 1, 1) := by decide +kernel
theorem dX4_kinds_45 : decode cX4_kinds 45 = .ok (.iaload, 1) := by decide +kernel
theorem dX4_kinds_46 : decode cX4_kinds 46 = .ok (.aload_n 0, 1) := by decide +kernel
theorem dX4_kinds_47 : decode cX4_kinds 47 = .ok (.getfield 11, 3) := by decide +kernel
theorem dX4_kinds_50 : decode cX4_kinds 50 = .ok (.iload_n 2, 1) := by decide +kernel
theorem dX4_kinds_51 : decode cX4_kinds 51 = .ok (.aaload, 1) := by decide +kernel
theorem dX4_kinds_52 : decode cX4_kinds 52 = .ok (.invokevirtual 284, 3) := by decide +kernel
theorem dX4_kinds_55 : decode cX4_kinds 55 = .ok (.ifCond .eq 12, 3) := by decide +kernel
theorem dX4_kinds_58 : decode cX4_kinds 58 = .ok (.iload 4, 2) := by decide +kernel
theorem dX4_kinds_60 : decode cX4_kinds 60 = .ok (.iconst 1, 1) := by decide +kernel
theorem dX4_kinds_61 : decode cX4_kinds 61 = .ok (.iload 5, 2) := by decide +kernel
theorem dX4_kinds_63 : decode cX4_kinds 63 = .ok (.ishl, 1) := by decide +kernel
theorem dX4_kinds_64 : decode cX4_kinds 64 = .ok (.ior, 1) := by decide +kernel
theorem dX4_kinds_65 : decode cX4_kinds 65 = .ok (.istore 4, 2) := by decide +kernel
theorem dX4_kinds_67 : decode cX4_kinds 67 = .ok (.iinc 5 1, 3) := by decide +kernel
theorem dX4_kinds_70 : decode cX4_kinds 70 = .ok (.goto (-51), 3) := by decide +kernel
theorem dX4_kinds_73 : decode cX4_kinds 73 = .ok (.iload 4, 2) := by decide +kernel
theorem dX4_kinds_75 : decode cX4_kinds 75 = .ok (.ireturn, 1) := by decide +kernel
theorem dX4_spots_0 : decode cX4_spots 0 = .ok (.aload_n 0, 1) := by decide +kernel
theorem dX4_spots_1 : decode cX4_spots 1 = .ok (.iload_n 1, 1) := by decide +kernel
theorem dX4_spots_2 : decode cX4_spots 2 = .ok (.iload_n 2, 1) := by decide +kernel
theorem dX4_spots_3 : decode cX4_spots 3 = .ok (.invokevirtual 281, 3) := by decide +kernel
theorem dX4_spots_6 : decode cX4_spots 6 = .ok (.istore_n 3, 1) := by decide +kernel
theorem dX4_spots_7 : decode cX4_spots 7 = .ok (.iload_n 3, 1) := by decide +kernel
theorem dX4_spots_8 : decode cX4_spots 8 = .ok (.ifCond .eq 5, 3) := by decide +kernel
theorem dX4_spots_11 : decode cX4_spots 11 = .ok (.iload_n 3, 1) := by decide +kernel
theorem dX4_spots_12 : decode cX4_spots 12 = .ok (.ireturn, 1) := by decide +kernel
theorem dX4_spots_13 : decode cX4_spots 13 = .ok (.iconst 0, 1) := by decide +kernel
theorem dX4_spots_14 : decode cX4_spots 14 = .ok (.istore 4, 2) := by decide +kernel
theorem dX4_spots_16 : decode cX4_spots 16 = .ok (.iconst 0, 1) := by decide +kernel
theorem dX4_spots_17 : decode cX4_spots 17 = .ok (.istore 5, 2) := by decide +kernel
theorem dX4_spots_19 : decode cX4_spots 19 = .ok (.iload 5, 2) := by decide +kernel
theorem dX4_spots_21 : decode cX4_spots 21 = .ok (.aload_n 0, 1) := by decide +kernel
theorem dX4_spots_22 : decode cX4_spots 22 = .ok (.getfield 21, 3) := by decide +kernel
theorem dX4_spots_25 : decode cX4_spots 25 = .ok (.getfield 121, 3) := by decide +kernel
theorem dX4_spots_28 : decode cX4_spots 28 = .ok (.if_icmp .ge 51, 3) := by decide +kernel
theorem dX4_spots_31 : decode cX4_spots 31 = .ok (.aload_n 0, 1) := by decide +kernel
theorem dX4_spots_32 : decode cX4_spots 32 = .ok (.aload_n 0, 1) := by decide +kernel
theorem dX4_spots_33 : decode cX4_spots 33 = .ok (.getfield 21, 3) := by decide +kernel
theorem dX4_spots_36 : decode cX4_spots 36 = .ok (.getfield 288, 3) := by decide +kernel
theorem dX4_spots_39 : decode cX4_spots 39 = .ok (.iload_n 1, 1) := by decide +kernel
theorem dX4_spots_40 : decode cX4_spots 40 = .ok (.iaload, 1) := by decide +kernel
theorem dX4_spots_41 : decode cX4_spots 41 = .ok (.iload 5, 2) := by decide +kernel
theorem dX4_spots_43 : decode cX4_spots 43 = .ok (.aload_n 0, 1) := by decide +kernel
theorem dX4_spots_44 : decode cX4_spots 44 = .ok (.getfield 21, 3) := by decide +kernel
theorem dX4_spots_47 : decode cX4_spots 47 = .ok (.getfield 140, 3) := by decide +kernel
theorem dX4_spots_50 : decode cX4_spots 50 = .ok (.iload_n 1, 1) := by decide +kernel
theorem dX4_spots_51 : decode cX4_spots 51 = .ok (.iaload, 1) := by decide +kernel
theorem dX4_spots_52 : decode cX4_spots 52 = .ok (.aload_n 0, 1) := by decide +kernel
theorem dX4_spots_53 : decode cX4_spots 53 = .ok (.getfield 11, 3) := by decide +kernel
theorem dX4_spots_56 : decode cX4_spots 56 = .ok (.iload_n 2, 1) := by decide +kernel
theorem dX4_spots_57 : decode cX4_spots 57 = .ok (.aaload, 1) := by decide +kernel
theorem dX4_spots_58 : decode cX4_spots 58 = .ok (.invokevirtual 284, 3) := by decide +kernel
theorem dX4_spots_61 : decode cX4_spots 61 = .ok (.ifCond .eq 12, 3) := by decide +kernel
theorem dX4_spots_64 : decode cX4_spots 64 = .ok (.iload 4, 2) := by decide +kernel
theorem dX4_spots_66 : decode cX4_spots 66 = .ok (.iconst 1, 1) := by decide +kernel
theorem dX4_spots_67 : decode cX4_spots 67 = .ok (.iload 5, 2) := by decide +kernel
theorem dX4_spots_69 : decode cX4_spots 69 = .ok (.ishl, 1) := by decide +kernel
theorem dX4_spots_70 : decode cX4_spots 70 = .ok (.ior, 1) := by decide +kernel
theorem dX4_spots_71 : decode cX4_spots 71 = .ok (.istore 4, 2) := by decide +kernel
theorem dX4_spots_73 : decode cX4_spots 73 = .ok (.iinc 5 1, 3) := by decide +kernel
theorem dX4_spots_76 : decode cX4_spots 76 = .ok (.goto (-57), 3) := by decide +kernel
theorem dX4_spots_79 : decode cX4_spots 79 = .ok (.iload 4, 2) := by decide +kernel
theorem dX4_spots_81 : decode cX4_spots 81 = .ok (.ireturn, 1) := by decide +kernel
theorem dX4_odds_0 : decode cX4_odds 0 = .ok (.iload_n 1, 1) := by decide +kernel
theorem dX4_odds_1 : decode cX4_odds 1 = .ok (.ifCond .lt 19, 3) := by decide +kernel
theorem dX4_odds_4 : decode cX4_odds 4 = .ok (.iload_n 1, 1) := by decide +kernel
theorem dX4_odds_5 : decode cX4_odds 5 = .ok (.bipush 99, 2) := by decide +kernel
theorem dX4_odds_7 : decode cX4_odds 7 = .ok (.if_icmp .gt 13, 3) := by decide +kernel
theorem dX4_odds_10 : decode cX4_odds 10 = .ok (.iload_n 2, 1) := by decide +kernel
theorem dX4_odds_11 : decode cX4_odds 11 = .ok (.ifCond .lt 9, 3) := by decide +kernel
theorem dX4_odds_14 : decode cX4_odds 14 = .ok (.iload_n 2, 1) := by decide +kernel
theorem dX4_odds_15 : decode cX4_odds 15 = .ok (.bipush 12, 2) := by decide +kernel
theorem dX4_odds_17 : decode cX4_odds 17 = .ok (.if_icmp .le 5, 3) := by decide +kernel
theorem dX4_odds_20 : decode cX4_odds 20 = .ok (.iconst (-1), 1) := by decide +kernel
theorem dX4_odds_21 : decode cX4_odds 21 = .ok (.ireturn, 1) := by decide +kernel
theorem dX4_odds_22 : decode cX4_odds 22 = .ok (.aload_n 0, 1) := by decide +kernel
theorem dX4_odds_23 : decode cX4_odds 23 = .ok (.getfield 21, 3) := by decide +kernel
theorem dX4_odds_26 : decode cX4_odds 26 = .ok (.invokevirtual 170, 3) := by decide +kernel
theorem dX4_odds_29 : decode cX4_odds 29 = .ok (.ifCond .ne 6, 3) := by decide +kernel
theorem dX4_odds_32 : decode cX4_odds 32 = .ok (.bipush (-4), 2) := by decide +kernel
theorem dX4_odds_34 : decode cX4_odds 34 = .ok (.ireturn, 1) := by decide +kernel
theorem dX4_odds_35 : decode cX4_odds 35 = .ok (.aload_n 0, 1) := by decide +kernel
theorem dX4_odds_36 : decode cX4_odds 36 = .ok (.invokevirtual 234, 3) := by decide +kernel
theorem dX4_odds_39 : decode cX4_odds 39 = .ok (.istore_n 3, 1) := by decide +kernel
theorem dX4_odds_40 : decode cX4_odds 40 = .ok (.lconst 0, 1) := by decide +kernel
theorem dX4_odds_41 : decode cX4_odds 41 = .ok (.lstore 4, 2) := by decide +kernel
theorem dX4_odds_43 : decode cX4_odds 43 = .ok (.iconst 0, 1) := by decide +kernel
theorem dX4_odds_44 : decode cX4_odds 44 = .ok (.istore 6, 2) := by decide +kernel
theorem dX4_odds_46 : decode cX4_odds 46 = .ok (.iload 6, 2) := by decide +kernel
theorem dX4_odds_48 : decode cX4_odds 48 = .ok (.iload_n 3, 1) := by decide +kernel
theorem dX4_odds_49 : decode cX4_odds 49 = .ok (.if_icmp .gt 43, 3) := by decide +kernel
theorem dX4_odds_52 : decode cX4_odds 52 = .ok (.iload 6, 2) := by decide +kernel
theorem dX4_odds_54 : decode cX4_odds 54 = .ok (.iload_n 3, 1) := by decide +kernel
theorem dX4_odds_55 : decode cX4_odds 55 = .ok (.iconst (-1), 1) := by decide +kernel
theorem dX4_odds_56 : decode cX4_odds 56 = .ok (.ixor, 1) := by decide +kernel
theorem dX4_odds_57 : decode cX4_odds 57 = .ok (.iand, 1) := by decide +kernel
theorem dX4_odds_58 : decode cX4_odds 58 = .ok (.ifCond .ne 28, 3) := by decide +kernel
theorem dX4_odds_61 : decode cX4_odds 61 = .ok (.aload_n 0, 1) := by decide +kernel
theorem dX4_odds_62 : decode cX4_odds 62 = .ok (.getfield 21, 3) := by decide +kernel
theorem dX4_odds_65 : decode cX4_odds 65 = .ok (.iload 6, 2) := by decide +kernel
theorem dX4_odds_67 : decode cX4_odds 67 = .ok (.invokevirtual 237, 3) := by decide +kernel
theorem dX4_odds_70 : decode cX4_odds 70 = .ok (.iload_n 1, 1) := by decide +kernel
theorem dX4_odds_71 : decode cX4_odds 71 = .ok (.if_icmp .lt 15, 3) := by decide +kernel
theorem dX4_odds_74 : decode cX4_odds 74 = .ok (.lload 4, 2) := by decide +kernel
theorem dX4_odds_76 : decode cX4_odds 76 = .ok (.iload 6, 2) := by decide +kernel
theorem dX4_odds_78 : decode cX4_odds 78 = .ok (.iload_n 3, 1) := by decide +kernel
theorem dX4_odds_79 : decode cX4_odds 79 = .ok (.iload_n 2, 1) := by decide +kernel
theorem dX4_odds_80 : decode cX4_odds 80 = .ok (.invokestatic 291, 3) := by decide +kernel
theorem dX4_odds_83 : decode cX4_odds 83 = .ok (.ladd, 1) := by decide +kernel
theorem dX4_odds_84 : decode cX4_odds 84 = .ok (.lstore 4, 2) := by decide +kernel
theorem dX4_odds_86 : decode cX4_odds 86 = .ok (.iinc 6 1, 3) := by decide +kernel
theorem dX4_odds_89 : decode cX4_odds 89 = .ok (.goto (-43), 3) := by decide +kernel
theorem dX4_odds_92 : decode cX4_odds 92 = .ok (.aload_n 0, 1) := by decide +kernel
theorem dX4_odds_93 : decode cX4_odds 93 = .ok (.lload 4, 2) := by decide +kernel
theorem dX4_odds_95 : decode cX4_odds 95 = .ok (.bipush 12, 2) := by decide +kernel
theorem dX4_odds_97 : decode cX4_odds 97 = .ok (.iload_n 3, 1) := by decide +kernel
theorem dX4_odds_98 : decode cX4_odds 98 = .ok (.invokestatic 240, 3) := by decide +kernel
theorem dX4_odds_101 : decode cX4_odds 101 = .ok (.invokestatic 295, 3) := by decide +kernel
theorem dX4_odds_104 : decode cX4_odds 104 = .ok (.invokevirtual 299, 3) := by decide +kernel
theorem dX4_odds_107 : decode cX4_odds 107 = .ok (.iconst 1, 1) := by decide +kernel
theorem dX4_odds_108 : decode cX4_odds 108 = .ok (.ireturn, 1) := by decide +kernel
theorem dX4_mid_0 : decode cX4_mid 0 = .ok (.iload_n 1, 1) := by decide +kernel
theorem dX4_mid_1 : decode cX4_mid 1 = .ok (.ifCond .lt 9, 3) := by decide +kernel
theorem dX4_mid_4 : decode cX4_mid 4 = .ok (.iload_n 1, 1) := by decide +kernel
theorem dX4_mid_5 : decode cX4_mid 5 = .ok (.bipush 12, 2) := by decide +kernel
theorem dX4_mid_7 : decode cX4_mid 7 = .ok (.if_icmp .le 5, 3) := by decide +kernel
theorem dX4_mid_10 : decode cX4_mid 10 = .ok (.iconst (-1), 1) := by decide +kernel
theorem dX4_mid_11 : decode cX4_mid 11 = .ok (.ireturn, 1) := by decide +kernel
theorem dX4_mid_12 : decode cX4_mid 12 = .ok (.aload_n 0, 1) := by decide +kernel
theorem dX4_mid_13 : decode cX4_mid 13 = .ok (.getfield 21, 3) := by decide +kernel
theorem dX4_mid_16 : decode cX4_mid 16 = .ok (.invokevirtual 170, 3) := by decide +kernel
theorem dX4_mid_19 : decode cX4_mid 19 = .ok (.ifCond .ne 6, 3) := by decide +kernel
theorem dX4_mid_22 : decode cX4_mid 22 = .ok (.bipush (-4), 2) := by decide +kernel
theorem dX4_mid_24 : decode cX4_mid 24 = .ok (.ireturn, 1) := by decide +kernel
theorem dX4_mid_25 : decode cX4_mid 25 = .ok (.aload_n 0, 1) := by decide +kernel
theorem dX4_mid_26 : decode cX4_mid 26 = .ok (.invokevirtual 234, 3) := by decide +kernel
theorem dX4_mid_29 : decode cX4_mid 29 = .ok (.istore_n 2, 1) := by decide +kernel
theorem dX4_mid_30 : decode cX4_mid 30 = .ok (.lconst 0, 1) := by decide +kernel
theorem dX4_mid_31 : decode cX4_mid 31 = .ok (.lstore_n 3, 1) := by decide +kernel
theorem dX4_mid_32 : decode cX4_mid 32 = .ok (.iconst 0, 1) := by decide +kernel
theorem dX4_mid_33 : decode cX4_mid 33 = .ok (.istore 5, 2) := by decide +kernel
theorem dX4_mid_35 : decode cX4_mid 35 = .ok (.iload 5, 2) := by decide +kernel
theorem dX4_mid_37 : decode cX4_mid 37 = .ok (.iload_n 2, 1) := by decide +kernel
theorem dX4_mid_38 : decode cX4_mid 38 = .ok (.if_icmp .gt 39, 3) := by decide +kernel
theorem dX4_mid_41 : decode cX4_mid 41 = .ok (.iload 5, 2) := by decide +kernel
theorem dX4_mid_43 : decode cX4_mid 43 = .ok (.iload_n 2, 1) := by decide +kernel
theorem dX4_mid_44 : decode cX4_mid 44 = .ok (.iconst (-1), 1) := by decide +kernel
theorem dX4_mid_45 : decode cX4_mid 45 = .ok (.ixor, 1) := by decide +kernel
theorem dX4_mid_46 : decode cX4_mid 46 = .ok (.iand, 1) := by decide +kernel
theorem dX4_mid_47 : decode cX4_mid 47 = .ok (.ifCond .ne 24, 3) := by decide +kernel
theorem dX4_mid_50 : decode cX4_mid 50 = .ok (.lload_n 3, 1) := by decide +kernel
theorem dX4_mid_51 : decode cX4_mid 51 = .ok (.aload_n 0, 1) := by decide +kernel
theorem dX4_mid_52 : decode cX4_mid 52 = .ok (.getfield 21, 3) := by decide +kernel
theorem dX4_mid_55 : decode cX4_mid 55 = .ok (.iload 5, 2) := by decide +kernel
theorem dX4_mid_57 : decode cX4_mid 57 = .ok (.invokevirtual 303, 3) := by decide +kernel
theorem dX4_mid_60 : decode cX4_mid 60 = .ok (.i2l, 1) := by decide +kernel
theorem dX4_mid_61 : decode cX4_mid 61 = .ok (.iload 5, 2) := by decide +kernel
theorem dX4_mid_63 : decode cX4_mid 63 = .ok (.iload_n 2, 1) := by decide +kernel
theorem dX4_mid_64 : decode cX4_mid 64 = .ok (.iload_n 1, 1) := by decide +kernel
theorem dX4_mid_65 : decode cX4_mid 65 = .ok (.invokestatic 291, 3) := by decide +kernel
theorem dX4_mid_68 : decode cX4_mid 68 = .ok (.lmul, 1) := by decide +kernel
theorem dX4_mid_69 : decode cX4_mid 69 = .ok (.ladd, 1) := by decide +kernel
theorem dX4_mid_70 : decode cX4_mid 70 = .ok (.lstore_n 3, 1) := by decide +kernel
theorem dX4_mid_71 : decode cX4_mid 71 = .ok (.iinc 5 1, 3) := by decide +kernel
theorem dX4_mid_74 : decode cX4_mid 74 = .ok (.goto (-39), 3) := by decide +kernel
theorem dX4_mid_77 : decode cX4_mid 77 = .ok (.aload_n 0, 1) := by decide +kernel
theorem dX4_mid_78 : decode cX4_mid 78 = .ok (.lload_n 3, 1) := by decide +kernel
theorem dX4_mid_79 : decode cX4_mid 79 = .ok (.bipush 12, 2) := by decide +kernel
theorem dX4_mid_81 : decode cX4_mid 81 = .ok (.iload_n 2, 1) := by decide +kernel
theorem dX4_mid_82 : decode cX4_mid 82 = .ok (.invokestatic 240, 3) := by decide +kernel
theorem dX4_mid_85 : decode cX4_mid 85 = .ok (.invokestatic 295, 3) := by decide +kernel
theorem dX4_mid_88 : decode cX4_mid 88 = .ok (.invokevirtual 299, 3) := by decide +kernel
theorem dX4_mid_91 : decode cX4_mid 91 = .ok (.iconst 1, 1) := by decide +kernel
theorem dX4_mid_92 : decode cX4_mid 92 = .ok (.ireturn, 1) := by decide +kernel
theorem dX4_lots_0 : decode cX4_lots 0 = .ok (.iload_n 1, 1) := by decide +kernel
theorem dX4_lots_1 : decode cX4_lots 1 = .ok (.iconst 1, 1) := by decide +kernel
theorem dX4_lots_2 : decode cX4_lots 2 = .ok (.if_icmp .lt 21, 3) := by decide +kernel
theorem dX4_lots_5 : decode cX4_lots 5 = .ok (.iload_n 1, 1) := by decide +kernel
theorem dX4_lots_6 : decode cX4_lots 6 = .ok (.bipush 20, 2) := by decide +kernel
theorem dX4_lots_8 : decode cX4_lots 8 = .ok (.if_icmp .gt 15, 3) := by decide +kernel
theorem dX4_lots_11 : decode cX4_lots 11 = .ok (.iload_n 2, 1) := by decide +kernel
theorem dX4_lots_12 : decode cX4_lots 12 = .ok (.iconst 1, 1) := by decide +kernel
theorem dX4_lots_13 : decode cX4_lots 13 = .ok (.if_icmp .lt 10, 3) := by decide +kernel
theorem dX4_lots_16 : decode cX4_lots 16 = .ok (.iload_n 2, 1) := by decide +kernel
theorem dX4_lots_17 : decode cX4_lots 17 = .ok (.ldc_w 306, 3) := by decide +kernel
theorem dX4_lots_20 : decode cX4_lots 20 = .ok (.if_icmp .le 5, 3) := by decide +kernel
theorem dX4_lots_23 : decode cX4_lots 23 = .ok (.iconst (-1), 1) := by decide +kernel
theorem dX4_lots_24 : decode cX4_lots 24 = .ok (.ireturn, 1) := by decide +kernel
theorem dX4_lots_25 : decode cX4_lots 25 = .ok (.aload_n 0, 1) := by decide +kernel
theorem dX4_lots_26 : decode cX4_lots 26 = .ok (.getfield 21, 3) := by decide +kernel
theorem dX4_lots_29 : decode cX4_lots 29 = .ok (.invokevirtual 170, 3) := by decide +kernel
theorem dX4_lots_32 : decode cX4_lots 32 = .ok (.ifCond .ne 6, 3) := by decide +kernel
theorem dX4_lots_35 : decode cX4_lots 35 = .ok (.bipush (-4), 2) := by decide +kernel
theorem dX4_lots_37 : decode cX4_lots 37 = .ok (.ireturn, 1) := by decide +kernel
theorem dX4_lots_38 : decode cX4_lots 38 = .ok (.aload_n 0, 1) := by decide +kernel
theorem dX4_lots_39 : decode cX4_lots 39 = .ok (.getfield 21, 3) := by decide +kernel
theorem dX4_lots_42 : decode cX4_lots 42 = .ok (.iload_n 1, 1) := by decide +kernel
theorem dX4_lots_43 : decode cX4_lots 43 = .ok (.invokevirtual 182, 3) := by decide +kernel
theorem dX4_lots_46 : decode cX4_lots 46 = .ok (.ifCond .ne 6, 3) := by decide +kernel
theorem dX4_lots_49 : decode cX4_lots 49 = .ok (.bipush (-2), 2) := by decide +kernel
theorem dX4_lots_51 : decode cX4_lots 51 = .ok (.ireturn, 1) := by decide +kernel
theorem dX4_lots_52 : decode cX4_lots 52 = .ok (.iload_n 2, 1) := by decide +kernel
theorem dX4_lots_53 : decode cX4_lots 53 = .ok (.i2l, 1) := by decide +kernel
theorem dX4_lots_54 : decode cX4_lots 54 = .ok (.lstore_n 3, 1) := by decide +kernel
theorem dX4_lots_55 : decode cX4_lots 55 = .ok (.iconst 0, 1) := by decide +kernel
theorem dX4_lots_56 : decode cX4_lots 56 = .ok (.istore 5, 2) := by decide +kernel
theorem dX4_lots_58 : decode cX4_lots 58 = .ok (.iload 5, 2) := by decide +kernel
theorem dX4_lots_60 : decode cX4_lots 60 = .ok (.iload_n 1, 1) := by decide +kernel
theorem dX4_lots_61 : decode cX4_lots 61 = .ok (.if_icmp .ge 67, 3) := by decide +kernel
theorem dX4_lots_64 : decode cX4_lots 64 = .ok (.lload_n 3, 1) := by decide +kernel
theorem dX4_lots_65 : decode cX4_lots 65 = .ok (.ldc2_w 307, 3) := by decide +kernel
theorem dX4_lots_68 : decode cX4_lots 68 = .ok (.lmul, 1) := by decide +kernel
theorem dX4_lots_69 : decode cX4_lots 69 = .ok (.ldc2_w 309, 3) := by decide +kernel
theorem dX4_lots_72 : decode cX4_lots 72 = .ok (.lrem, 1) := by decide +kernel
theorem dX4_lots_73 : decode cX4_lots 73 = .ok (.lstore_n 3, 1) := by decide +kernel
theorem dX4_lots_74 : decode cX4_lots 74 = .ok (.lload_n 3, 1) := by decide +kernel
theorem dX4_lots_75 : decode cX4_lots 75 = .ok (.ldc2_w 311, 3) := by decide +kernel
theorem dX4_lots_78 : decode cX4_lots 78 = .ok (.lrem, 1) := by decide +kernel
theorem dX4_lots_79 : decode cX4_lots 79 = .ok (.lconst 0, 1) := by decide +kernel
theorem dX4_lots_80 : decode cX4_lots 80 = .ok (.lcmp, 1) := by decide +kernel
theorem dX4_lots_81 : decode cX4_lots 81 = .ok (.ifCond .ne 13, 3) := by decide +kernel
theorem dX4_lots_84 : decode cX4_lots 84 = .ok (.aload_n 0, 1) := by decide +kernel
theorem dX4_lots_85 : decode cX4_lots 85 = .ok (.getfield 21, 3) := by decide +kernel
theorem dX4_lots_88 : decode cX4_lots 88 = .ok (.invokevirtual 185, 3) := by decide +kernel
theorem dX4_lots_91 : decode cX4_lots 91 = .ok (.goto 31, 3) := by decide +kernel
theorem dX4_lots_94 : decode cX4_lots 94 = .ok (.aload_n 0, 1) := by decide +kernel
theorem dX4_lots_95 : decode cX4_lots 95 = .ok (.getfield 21, 3) := by decide +kernel
theorem dX4_lots_98 : decode cX4_lots 98 = .ok (.lload_n 3, 1) := by decide +kernel
theorem dX4_lots_99 : decode cX4_lots 99 = .ok (.ldc2_w 313, 3) := by decide +kernel
theorem dX4_lots_102 : decode cX4_lots 102 = .ok (.ldiv, 1) := by decide +kernel
theorem dX4_lots_103 : decode cX4_lots 103 = .ok (.l2i, 1) := by decide +kernel
theorem dX4_lots_104 : decode cX4_lots 104 = .ok (.lload_n 3, 1) := by decide +kernel
theorem dX4_lots_105 : decode cX4_lots 105 = .ok (.ldc2_w 311, 3) := by decide +kernel
theorem dX4_lots_108 : decode cX4_lots 108 = .ok (.lrem, 1) := by decide +kernel
theorem dX4_lots_109 : decode cX4_lots 109 = .ok (.lconst 1, 1) := by decide +kernel
theorem dX4_lots_110 : decode cX4_lots 110 = .ok (.lcmp, 1) := by decide +kernel
theorem dX4_lots_111 : decode cX4_lots 111 = .ok (.ifCond .ne 7, 3) := by decide +kernel
theorem dX4_lots_114 : decode cX4_lots 114 = .ok (.iconst (-1), 1) := by decide +kernel
theorem dX4_lots_115 : decode cX4_lots 115 = .ok (.goto 4, 3) := by decide +kernel
theorem dX4_lots_118 : decode cX4_lots 118 = .ok (.iconst 1, 1) := by decide +kernel
theorem dX4_lots_119 : decode cX4_lots 119 = .ok (.invokevirtual 315, 3) := by decide +kernel
theorem dX4_lots_122 : decode cX4_lots 122 = .ok (.iinc 5 1, 3) := by decide +kernel
theorem dX4_lots_125 : decode cX4_lots 125 = .ok (.goto (-67), 3) := by decide +kernel
theorem dX4_lots_128 : decode cX4_lots 128 = .ok (.aload_n 0, 1) := by decide +kernel
theorem dX4_lots_129 : decode cX4_lots 129 = .ok (.getfield 21, 3) := by decide +kernel
theorem dX4_lots_132 : decode cX4_lots 132 = .ok (.invokevirtual 146, 3) := by decide +kernel
theorem dX4_lots_135 : decode cX4_lots 135 = .ok (.ireturn, 1) := by decide +kernel
theorem dX4_asked_0 : decode cX4_asked 0 = .ok (.aload_n 0, 1) := by decide +kernel
theorem dX4_asked_1 : decode cX4_asked 1 = .ok (.getfield 50, 3) := by decide +kernel
theorem dX4_asked_4 : decode cX4_asked 4 = .ok (.ireturn, 1) := by decide +kernel
theorem dX4_upper_0 : decode cX4_upper 0 = .ok (.aload_n 0, 1) := by decide +kernel
theorem dX4_upper_1 : decode cX4_upper 1 = .ok (.getfield 53, 3) := by decide +kernel
theorem dX4_upper_4 : decode cX4_upper 4 = .ok (.lreturn, 1) := by decide +kernel
theorem dX4_lower_0 : decode cX4_lower 0 = .ok (.aload_n 0, 1) := by decide +kernel
theorem dX4_lower_1 : decode cX4_lower 1 = .ok (.getfield 57, 3) := by decide +kernel
theorem dX4_lower_4 : decode cX4_lower 4 = .ok (.lreturn, 1) := by decide +kernel
theorem dX4_count_0 : decode cX4_count 0 = .ok (.iload_n 1, 1) := by decide +kernel
theorem dX4_count_1 : decode cX4_count 1 = .ok (.tableswitch 144 0 10 #[59, 67, 75, 83, 94, 102, 110, 115, 123, 131, 139], 59) := by decide +kernel
theorem dX4_count_60 : decode cX4_count 60 = .ok (.aload_n 0, 1) := by decide +kernel
theorem dX4_count_61 : decode cX4_count 61 = .ok (.getfield 21, 3) := by decide +kernel
theorem dX4_count_64 : decode cX4_count 64 = .ok (.getfield 124, 3) := by decide +kernel
theorem dX4_count_67 : decode cX4_count 67 = .ok (.ireturn, 1) := by decide +kernel
theorem dX4_count_68 : decode cX4_count 68 = .ok (.aload_n 0, 1) := by decide +kernel
theorem dX4_count_69 : decode cX4_count 69 = .ok (.getfield 21, 3) := by decide +kernel
theorem dX4_count_72 : decode cX4_count 72 = .ok (.getfield 121, 3) := by decide +kernel
theorem dX4_count_75 : decode cX4_count 75 = .ok (.ireturn, 1) := by decide +kernel
theorem dX4_count_76 : decode cX4_count 76 = .ok (.aload_n 0, 1) := by decide +kernel
theorem dX4_count_77 : decode cX4_count 77 = .ok (.getfield 21, 3) := by decide +kernel
theorem dX4_count_80 : decode cX4_count 80 = .ok (.getfield 318, 3) := by decide +kernel
theorem dX4_count_83 : decode cX4_count 83 = .ok (.ireturn, 1) := by decide +kernel
theorem dX4_count_84 : decode cX4_count 84 = .ok (.aload_n 0, 1) := by decide +kernel
theorem dX4_count_85 : decode cX4_count 85 = .ok (.getfield 21, 3) := by decide +kernel
theorem dX4_count_88 : decode cX4_count 88 = .ok (.getfield 202, 3) := by decide +kernel
theorem dX4_count_91 : decode cX4_count 91 = .ok (.getfield 206, 3) := by decide +kernel
theorem dX4_count_94 : decode cX4_count 94 = .ok (.ireturn, 1) := by decide +kernel
theorem dX4_count_95 : decode cX4_count 95 = .ok (.aload_n 0, 1) := by decide +kernel
theorem dX4_count_96 : decode cX4_count 96 = .ok (.getfield 21, 3) := by decide +kernel
theorem dX4_count_99 : decode cX4_count 99 = .ok (.getfield 158, 3) := by decide +kernel
theorem dX4_count_102 : decode cX4_count 102 = .ok (.ireturn, 1) := by decide +kernel
theorem dX4_count_103 : decode cX4_count 103 = .ok (.aload_n 0, 1) := by decide +kernel
theorem dX4_count_104 : decode cX4_count 104 = .ok (.getfield 21, 3) := by decide +kernel
theorem dX4_count_107 : decode cX4_count 107 = .ok (.getfield 161, 3) := by decide +kernel
theorem dX4_count_110 : decode cX4_count 110 = .ok (.ireturn, 1) := by decide +kernel
theorem dX4_count_111 : decode cX4_count 111 = .ok (.aload_n 0, 1) := by decide +kernel
theorem dX4_count_112 : decode cX4_count 112 = .ok (.invokevirtual 234, 3) := by decide +kernel
theorem dX4_count_115 : decode cX4_count 115 = .ok (.ireturn, 1) := by decide +kernel
theorem dX4_count_116 : decode cX4_count 116 = .ok (.aload_n 0, 1) := by decide +kernel
theorem dX4_count_117 : decode cX4_count 117 = .ok (.getfield 21, 3) := by decide +kernel
theorem dX4_count_120 : decode cX4_count 120 = .ok (.invokevirtual 321, 3) := by decide +kernel
theorem dX4_count_123 : decode cX4_count 123 = .ok (.ireturn, 1) := by decide +kernel
theorem dX4_count_124 : decode cX4_count 124 = .ok (.aload_n 0, 1) := by decide +kernel
theorem dX4_count_125 : decode cX4_count 125 = .ok (.getfield 11, 3) := by decide +kernel
theorem dX4_count_128 : decode cX4_count 128 = .ok (.invokestatic 324, 3) := by decide +kernel
theorem dX4_count_131 : decode cX4_count 131 = .ok (.ireturn, 1) := by decide +kernel
theorem dX4_count_132 : decode cX4_count 132 = .ok (.aload_n 0, 1) := by decide +kernel
theorem dX4_count_133 : decode cX4_count 133 = .ok (.getfield 15, 3) := by decide +kernel
theorem dX4_count_136 : decode cX4_count 136 = .ok (.invokestatic 324, 3) := by decide +kernel
theorem dX4_count_139 : decode cX4_count 139 = .ok (.ireturn, 1) := by decide +kernel
theorem dX4_count_140 : decode cX4_count 140 = .ok (.aload_n 0, 1) := by decide +kernel
theorem dX4_count_141 : decode cX4_count 141 = .ok (.invokevirtual 328, 3) := by decide +kernel
theorem dX4_count_144 : decode cX4_count 144 = .ok (.ireturn, 1) := by decide +kernel
theorem dX4_count_145 : decode cX4_count 145 = .ok (.iconst (-1), 1) := by decide +kernel
theorem dX4_count_146 : decode cX4_count 146 = .ok (.ireturn, 1) := by decide +kernel
theorem dX4_finding_0 : decode cX4_finding 0 = .ok (.aload_n 0, 1) := by decide +kernel
theorem dX4_finding_1 : decode cX4_finding 1 = .ok (.getfield 46, 3) := by decide +kernel
theorem dX4_finding_4 : decode cX4_finding 4 = .ok (.ireturn, 1) := by decide +kernel
theorem dX4_findings_0 : decode cX4_findings 0 = .ok (.iload_n 1, 1) := by decide +kernel
theorem dX4_findings_1 : decode cX4_findings 1 = .ok (.iconst 1, 1) := by decide +kernel
theorem dX4_findings_2 : decode cX4_findings 2 = .ok (.if_icmp .lt 8, 3) := by decide +kernel
theorem dX4_findings_5 : decode cX4_findings 5 = .ok (.iload_n 1, 1) := by decide +kernel
theorem dX4_findings_6 : decode cX4_findings 6 = .ok (.iconst 5, 1) := by decide +kernel
theorem dX4_findings_7 : decode cX4_findings 7 = .ok (.if_icmp .le 5, 3) := by decide +kernel
theorem dX4_findings_10 : decode cX4_findings 10 = .ok (.iconst (-1), 1) := by decide +kernel
theorem dX4_findings_11 : decode cX4_findings 11 = .ok (.ireturn, 1) := by decide +kernel
theorem dX4_findings_12 : decode cX4_findings 12 = .ok (.aload_n 0, 1) := by decide +kernel
theorem dX4_findings_13 : decode cX4_findings 13 = .ok (.getfield 43, 3) := by decide +kernel
theorem dX4_findings_16 : decode cX4_findings 16 = .ok (.iload_n 1, 1) := by decide +kernel
theorem dX4_findings_17 : decode cX4_findings 17 = .ok (.iaload, 1) := by decide +kernel
theorem dX4_findings_18 : decode cX4_findings 18 = .ok (.ireturn, 1) := by decide +kernel
theorem dX4_digest_0 : decode cX4_digest 0 = .ok (.ldc2_w 331, 3) := by decide +kernel
theorem dX4_digest_3 : decode cX4_digest 3 = .ok (.lstore_n 1, 1) := by decide +kernel
theorem dX4_digest_4 : decode cX4_digest 4 = .ok (.iconst 0, 1) := by decide +kernel
theorem dX4_digest_5 : decode cX4_digest 5 = .ok (.istore_n 3, 1) := by decide +kernel
theorem dX4_digest_6 : decode cX4_digest 6 = .ok (.iload_n 3, 1) := by decide +kernel
theorem dX4_digest_7 : decode cX4_digest 7 = .ok (.bipush 10, 2) := by decide +kernel
theorem dX4_digest_9 : decode cX4_digest 9 = .ok (.if_icmp .gt 22, 3) := by decide +kernel
theorem dX4_digest_12 : decode cX4_digest 12 = .ok (.ldc2_w 333, 3) := by decide +kernel
theorem dX4_digest_15 : decode cX4_digest 15 = .ok (.lload_n 1, 1) := by decide +kernel
theorem dX4_digest_16 : decode cX4_digest 16 = .ok (.lmul, 1) := by decide +kernel
theorem dX4_digest_17 : decode cX4_digest 17 = .ok (.aload_n 0, 1) := by decide +kernel
theorem dX4_digest_18 : decode cX4_digest 18 = .ok (.iload_n 3, 1) := by decide +kernel
theorem dX4_digest_19 : decode cX4_digest 19 = .ok (.invokevirtual 335, 3) := by decide +kernel
theorem dX4_digest_22 : decode cX4_digest 22 = .ok (.i2l, 1) := by decide +kernel
theorem dX4_digest_23 : decode cX4_digest 23 = .ok (.ladd, 1) := by decide +kernel
theorem dX4_digest_24 : decode cX4_digest 24 = .ok (.lstore_n 1, 1) := by decide +kernel
theorem dX4_digest_25 : decode cX4_digest 25 = .ok (.iinc 3 1, 3) := by decide +kernel
theorem dX4_digest_28 : decode cX4_digest 28 = .ok (.goto (-22), 3) := by decide +kernel
theorem dX4_digest_31 : decode cX4_digest 31 = .ok (.iconst 3, 1) := by decide +kernel
theorem dX4_digest_32 : decode cX4_digest 32 = .ok (.istore_n 3, 1) := by decide +kernel
theorem dX4_digest_33 : decode cX4_digest 33 = .ok (.iload_n 3, 1) := by decide +kernel
theorem dX4_digest_34 : decode cX4_digest 34 = .ok (.iconst 5, 1) := by decide +kernel
theorem dX4_digest_35 : decode cX4_digest 35 = .ok (.if_icmp .gt 32, 3) := by decide +kernel
theorem dX4_digest_38 : decode cX4_digest 38 = .ok (.aload_n 0, 1) := by decide +kernel
theorem dX4_digest_39 : decode cX4_digest 39 = .ok (.getfield 21, 3) := by decide +kernel
theorem dX4_digest_42 : decode cX4_digest 42 = .ok (.invokevirtual 170, 3) := by decide +kernel
theorem dX4_digest_45 : decode cX4_digest 45 = .ok (.ifCond .eq 22, 3) := by decide +kernel
theorem dX4_digest_48 : decode cX4_digest 48 = .ok (.ldc2_w 333, 3) := by decide +kernel
theorem dX4_digest_51 : decode cX4_digest 51 = .ok (.lload_n 1, 1) := by decide +kernel
theorem dX4_digest_52 : decode cX4_digest 52 = .ok (.lmul, 1) := by decide +kernel
theorem dX4_digest_53 : decode cX4_digest 53 = .ok (.aload_n 0, 1) := by decide +kernel
theorem dX4_digest_54 : decode cX4_digest 54 = .ok (.iload_n 3, 1) := by decide +kernel
theorem dX4_digest_55 : decode cX4_digest 55 = .ok (.invokevirtual 338, 3) := by decide +kernel
theorem dX4_digest_58 : decode cX4_digest 58 = .ok (.i2l, 1) := by decide +kernel
theorem dX4_digest_59 : decode cX4_digest 59 = .ok (.ladd, 1) := by decide +kernel
theorem dX4_digest_60 : decode cX4_digest 60 = .ok (.lstore_n 1, 1) := by decide +kernel
theorem dX4_digest_61 : decode cX4_digest 61 = .ok (.iinc 3 1, 3) := by decide +kernel
theorem dX4_digest_64 : decode cX4_digest 64 = .ok (.goto (-31), 3) := by decide +kernel
theorem dX4_digest_67 : decode cX4_digest 67 = .ok (.iconst 0, 1) := by decide +kernel
theorem dX4_digest_68 : decode cX4_digest 68 = .ok (.istore_n 3, 1) := by decide +kernel
theorem dX4_digest_69 : decode cX4_digest 69 = .ok (.iload_n 3, 1) := by decide +kernel
theorem dX4_digest_70 : decode cX4_digest 70 = .ok (.aload_n 0, 1) := by decide +kernel
theorem dX4_digest_71 : decode cX4_digest 71 = .ok (.getfield 21, 3) := by decide +kernel
theorem dX4_digest_74 : decode cX4_digest 74 = .ok (.getfield 124, 3) := by decide +kernel
theorem dX4_digest_77 : decode cX4_digest 77 = .ok (.if_icmp .ge 39, 3) := by decide +kernel
theorem dX4_digest_80 : decode cX4_digest 80 = .ok (.iconst 0, 1) := by decide +kernel
theorem dX4_digest_81 : decode cX4_digest 81 = .ok (.istore 4, 2) := by decide +kernel
theorem dX4_digest_83 : decode cX4_digest 83 = .ok (.iload 4, 2) := by decide +kernel
theorem dX4_digest_85 : decode cX4_digest 85 = .ok (.iconst 5, 1) := by decide +kernel
theorem dX4_digest_86 : decode cX4_digest 86 = .ok (.if_icmp .gt 24, 3) := by decide +kernel
theorem dX4_digest_89 : decode cX4_digest 89 = .ok (.ldc2_w 333, 3) := by decide +kernel
theorem dX4_digest_92 : decode cX4_digest 92 = .ok (.lload_n 1, 1) := by decide +kernel
theorem dX4_digest_93 : decode cX4_digest 93 = .ok (.lmul, 1) := by decide +kernel
theorem dX4_digest_94 : decode cX4_digest 94 = .ok (.aload_n 0, 1) := by decide +kernel
theorem dX4_digest_95 : decode cX4_digest 95 = .ok (.iload_n 3, 1) := by decide +kernel
theorem dX4_digest_96 : decode cX4_digest 96 = .ok (.iload 4, 2) := by decide +kernel
theorem dX4_digest_98 : decode cX4_digest 98 = .ok (.invokevirtual 130, 3) := by decide +kernel
theorem dX4_digest_101 : decode cX4_digest 101 = .ok (.i2l, 1) := by decide +kernel
theorem dX4_digest_102 : decode cX4_digest 102 = .ok (.ladd, 1) := by decide +kernel
theorem dX4_digest_103 : decode cX4_digest 103 = .ok (.lstore_n 1, 1) := by decide +kernel
theorem dX4_digest_104 : decode cX4_digest 104 = .ok (.iinc 4 1, 3) := by decide +kernel
theorem dX4_digest_107 : decode cX4_digest 107 = .ok (.goto (-24), 3) := by decide +kernel
theorem dX4_digest_110 : decode cX4_digest 110 = .ok (.iinc 3 1, 3) := by decide +kernel
theorem dX4_digest_113 : decode cX4_digest 113 = .ok (.goto (-44), 3) := by decide +kernel
theorem dX4_digest_116 : decode cX4_digest 116 = .ok (.iconst 0, 1) := by decide +kernel
theorem dX4_digest_117 : decode cX4_digest 117 = .ok (.istore_n 3, 1) := by decide +kernel
theorem dX4_digest_118 : decode cX4_digest 118 = .ok (.iload_n 3, 1) := by decide +kernel
theorem dX4_digest_119 : decode cX4_digest 119 = .ok (.iconst 3, 1) := by decide +kernel
theorem dX4_digest_120 : decode cX4_digest 120 = .ok (.if_icmp .ge 45, 3) := by decide +kernel
theorem dX4_digest_123 : decode cX4_digest 123 = .ok (.ldc2_w 333, 3) := by decide +kernel
theorem dX4_digest_126 : decode cX4_digest 126 = .ok (.lload_n 1, 1) := by decide +kernel
theorem dX4_digest_127 : decode cX4_digest 127 = .ok (.lmul, 1) := by decide +kernel
theorem dX4_digest_128 : decode cX4_digest 128 = .ok (.aload_n 0, 1) := by decide +kernel
theorem dX4_digest_129 : decode cX4_digest 129 = .ok (.getfield 25, 3) := by decide +kernel
theorem dX4_digest_132 : decode cX4_digest 132 = .ok (.iload_n 3, 1) := by decide +kernel
theorem dX4_digest_133 : decode cX4_digest 133 = .ok (.aaload, 1) := by decide +kernel
theorem dX4_digest_134 : decode cX4_digest 134 = .ok (.invokevirtual 170, 3) := by decide +kernel
theorem dX4_digest_137 : decode cX4_digest 137 = .ok (.ifCond .eq 18, 3) := by decide +kernel
theorem dX4_digest_140 : decode cX4_digest 140 = .ok (.aload_n 0, 1) := by decide +kernel
theorem dX4_digest_141 : decode cX4_digest 141 = .ok (.getfield 25, 3) := by decide +kernel
theorem dX4_digest_144 : decode cX4_digest 144 = .ok (.iload_n 3, 1) := by decide +kernel
theorem dX4_digest_145 : decode cX4_digest 145 = .ok (.aaload, 1) := by decide +kernel
theorem dX4_digest_146 : decode cX4_digest 146 = .ok (.getfield 202, 3) := by decide +kernel
theorem dX4_digest_149 : decode cX4_digest 149 = .ok (.getfield 206, 3) := by decide +kernel
theorem dX4_digest_152 : decode cX4_digest 152 = .ok (.goto 4, 3) := by decide +kernel
theorem dX4_digest_155 : decode cX4_digest 155 = .ok (.iconst (-1), 1) := by decide +kernel
theorem dX4_digest_156 : decode cX4_digest 156 = .ok (.i2l, 1) := by decide +kernel
theorem dX4_digest_157 : decode cX4_digest 157 = .ok (.ladd, 1) := by decide +kernel
theorem dX4_digest_158 : decode cX4_digest 158 = .ok (.lstore_n 1, 1) := by decide +kernel
theorem dX4_digest_159 : decode cX4_digest 159 = .ok (.iinc 3 1, 3) := by decide +kernel
theorem dX4_digest_162 : decode cX4_digest 162 = .ok (.goto (-44), 3) := by decide +kernel
theorem dX4_digest_165 : decode cX4_digest 165 = .ok (.iconst 0, 1) := by decide +kernel
theorem dX4_digest_166 : decode cX4_digest 166 = .ok (.istore_n 3, 1) := by decide +kernel
theorem dX4_digest_167 : decode cX4_digest 167 = .ok (.iload_n 3, 1) := by decide +kernel
theorem dX4_digest_168 : decode cX4_digest 168 = .ok (.bipush 6, 2) := by decide +kernel
theorem dX4_digest_170 : decode cX4_digest 170 = .ok (.if_icmp .ge 20, 3) := by decide +kernel
theorem dX4_digest_173 : decode cX4_digest 173 = .ok (.aload_n 0, 1) := by decide +kernel
theorem dX4_digest_174 : decode cX4_digest 174 = .ok (.getfield 11, 3) := by decide +kernel
theorem dX4_digest_177 : decode cX4_digest 177 = .ok (.iload_n 3, 1) := by decide +kernel
theorem dX4_digest_178 : decode cX4_digest 178 = .ok (.aaload, 1) := by decide +kernel
theorem dX4_digest_179 : decode cX4_digest 179 = .ok (.lload_n 1, 1) := by decide +kernel
theorem dX4_digest_180 : decode cX4_digest 180 = .ok (.invokevirtual 341, 3) := by decide +kernel
theorem dX4_digest_183 : decode cX4_digest 183 = .ok (.lstore_n 1, 1) := by decide +kernel
theorem dX4_digest_184 : decode cX4_digest 184 = .ok (.iinc 3 1, 3) := by decide +kernel
theorem dX4_digest_187 : decode cX4_digest 187 = .ok (.goto (-20), 3) := by decide +kernel
theorem dX4_digest_190 : decode cX4_digest 190 = .ok (.iconst 0, 1) := by decide +kernel
theorem dX4_digest_191 : decode cX4_digest 191 = .ok (.istore_n 3, 1) := by decide +kernel
theorem dX4_digest_192 : decode cX4_digest 192 = .ok (.iload_n 3, 1) := by decide +kernel
theorem dX4_digest_193 : decode cX4_digest 193 = .ok (.iconst 4, 1) := by decide +kernel
theorem dX4_digest_194 : decode cX4_digest 194 = .ok (.if_icmp .ge 20, 3) := by decide +kernel
theorem dX4_digest_197 : decode cX4_digest 197 = .ok (.aload_n 0, 1) := by decide +kernel
theorem dX4_digest_198 : decode cX4_digest 198 = .ok (.getfield 15, 3) := by decide +kernel
theorem dX4_digest_201 : decode cX4_digest 201 = .ok (.iload_n 3, 1) := by decide +kernel
theorem dX4_digest_202 : decode cX4_digest 202 = .ok (.aaload, 1) := by decide +kernel
theorem dX4_digest_203 : decode cX4_digest 203 = .ok (.lload_n 1, 1) := by decide +kernel
theorem dX4_digest_204 : decode cX4_digest 204 = .ok (.invokevirtual 341, 3) := by decide +kernel
theorem dX4_digest_207 : decode cX4_digest 207 = .ok (.lstore_n 1, 1) := by decide +kernel
theorem dX4_digest_208 : decode cX4_digest 208 = .ok (.iinc 3 1, 3) := by decide +kernel
theorem dX4_digest_211 : decode cX4_digest 211 = .ok (.goto (-19), 3) := by decide +kernel
theorem dX4_digest_214 : decode cX4_digest 214 = .ok (.lload_n 1, 1) := by decide +kernel
theorem dX4_digest_215 : decode cX4_digest 215 = .ok (.lreturn, 1) := by decide +kernel
theorem dX4_isRow_0 : decode cX4_isRow 0 = .ok (.iload_n 0, 1) := by decide +kernel
theorem dX4_isRow_1 : decode cX4_isRow 1 = .ok (.ifCond .lt 13, 3) := by decide +kernel
theorem dX4_isRow_4 : decode cX4_isRow 4 = .ok (.iload_n 0, 1) := by decide +kernel
theorem dX4_isRow_5 : decode cX4_isRow 5 = .ok (.bipush 6, 2) := by decide +kernel
theorem dX4_isRow_7 : decode cX4_isRow 7 = .ok (.if_icmp .ge 7, 3) := by decide +kernel
theorem dX4_isRow_10 : decode cX4_isRow 10 = .ok (.iconst 1, 1) := by decide +kernel
theorem dX4_isRow_11 : decode cX4_isRow 11 = .ok (.goto 4, 3) := by decide +kernel
theorem dX4_isRow_14 : decode cX4_isRow 14 = .ok (.iconst 0, 1) := by decide +kernel
theorem dX4_isRow_15 : decode cX4_isRow 15 = .ok (.ireturn, 1) := by decide +kernel
theorem dX4_isText_0 : decode cX4_isText 0 = .ok (.iload_n 0, 1) := by decide +kernel
theorem dX4_isText_1 : decode cX4_isText 1 = .ok (.ifCond .lt 12, 3) := by decide +kernel
theorem dX4_isText_4 : decode cX4_isText 4 = .ok (.iload_n 0, 1) := by decide +kernel
theorem dX4_isText_5 : decode cX4_isText 5 = .ok (.iconst 4, 1) := by decide +kernel
theorem dX4_isText_6 : decode cX4_isText 6 = .ok (.if_icmp .ge 7, 3) := by decide +kernel
theorem dX4_isText_9 : decode cX4_isText 9 = .ok (.iconst 1, 1) := by decide +kernel
theorem dX4_isText_10 : decode cX4_isText 10 = .ok (.goto 4, 3) := by decide +kernel
theorem dX4_isText_13 : decode cX4_isText 13 = .ok (.iconst 0, 1) := by decide +kernel
theorem dX4_isText_14 : decode cX4_isText 14 = .ok (.ireturn, 1) := by decide +kernel
theorem dX4_isKept_0 : decode cX4_isKept 0 = .ok (.iload_n 0, 1) := by decide +kernel
theorem dX4_isKept_1 : decode cX4_isKept 1 = .ok (.ifCond .lt 12, 3) := by decide +kernel
theorem dX4_isKept_4 : decode cX4_isKept 4 = .ok (.iload_n 0, 1) := by decide +kernel
theorem dX4_isKept_5 : decode cX4_isKept 5 = .ok (.iconst 3, 1) := by decide +kernel
theorem dX4_isKept_6 : decode cX4_isKept 6 = .ok (.if_icmp .ge 7, 3) := by decide +kernel
theorem dX4_isKept_9 : decode cX4_isKept 9 = .ok (.iconst 1, 1) := by decide +kernel
theorem dX4_isKept_10 : decode cX4_isKept 10 = .ok (.goto 4, 3) := by decide +kernel
theorem dX4_isKept_13 : decode cX4_isKept 13 = .ok (.iconst 0, 1) := by decide +kernel
theorem dX4_isKept_14 : decode cX4_isKept 14 = .ok (.ireturn, 1) := by decide +kernel
theorem dX4_refuse_0 : decode cX4_refuse 0 = .ok (.iload_n 1, 1) := by decide +kernel
theorem dX4_refuse_1 : decode cX4_refuse 1 = .ok (.iconst 1, 1) := by decide +kernel
theorem dX4_refuse_2 : decode cX4_refuse 2 = .ok (.if_icmp .lt 23, 3) := by decide +kernel
theorem dX4_refuse_5 : decode cX4_refuse 5 = .ok (.iload_n 1, 1) := by decide +kernel
theorem dX4_refuse_6 : decode cX4_refuse 6 = .ok (.iconst 5, 1) := by decide +kernel
theorem dX4_refuse_7 : decode cX4_refuse 7 = .ok (.if_icmp .gt 18, 3) := by decide +kernel
theorem dX4_refuse_10 : decode cX4_refuse 10 = .ok (.aload_n 0, 1) := by decide +kernel
theorem dX4_refuse_11 : decode cX4_refuse 11 = .ok (.iload_n 1, 1) := by decide +kernel
theorem dX4_refuse_12 : decode cX4_refuse 12 = .ok (.putfield 46, 3) := by decide +kernel
theorem dX4_refuse_15 : decode cX4_refuse 15 = .ok (.aload_n 0, 1) := by decide +kernel
theorem dX4_refuse_16 : decode cX4_refuse 16 = .ok (.getfield 43, 3) := by decide +kernel
theorem dX4_refuse_19 : decode cX4_refuse 19 = .ok (.iload_n 1, 1) := by decide +kernel
theorem dX4_refuse_20 : decode cX4_refuse 20 = .ok (.dup2, 1) := by decide +kernel
theorem dX4_refuse_21 : decode cX4_refuse 21 = .ok (.iaload, 1) := by decide +kernel
theorem dX4_refuse_22 : decode cX4_refuse 22 = .ok (.iconst 1, 1) := by decide +kernel
theorem dX4_refuse_23 : decode cX4_refuse 23 = .ok (.iadd, 1) := by decide +kernel
theorem dX4_refuse_24 : decode cX4_refuse 24 = .ok (.iastore, 1) := by decide +kernel
theorem dX4_refuse_25 : decode cX4_refuse 25 = .ok (.bipush (-3), 2) := by decide +kernel
theorem dX4_refuse_27 : decode cX4_refuse 27 = .ok (.ireturn, 1) := by decide +kernel
theorem dX4_refuseMissing_0 : decode cX4_refuseMissing 0 = .ok (.iload_n 2, 1) := by decide +kernel
theorem dX4_refuseMissing_1 : decode cX4_refuseMissing 1 = .ok (.ifCond .lt 9, 3) := by decide +kernel
theorem dX4_refuseMissing_4 : decode cX4_refuseMissing 4 = .ok (.iload_n 2, 1) := by decide +kernel
theorem dX4_refuseMissing_5 : decode cX4_refuseMissing 5 = .ok (.aload_n 1, 1) := by decide +kernel
theorem dX4_refuseMissing_6 : decode cX4_refuseMissing 6 = .ok (.arraylength, 1) := by decide +kernel
theorem dX4_refuseMissing_7 : decode cX4_refuseMissing 7 = .ok (.if_icmp .lt 5, 3) := by decide +kernel
theorem dX4_refuseMissing_10 : decode cX4_refuseMissing 10 = .ok (.iconst (-1), 1) := by decide +kernel
theorem dX4_refuseMissing_11 : decode cX4_refuseMissing 11 = .ok (.ireturn, 1) := by decide +kernel
theorem dX4_refuseMissing_12 : decode cX4_refuseMissing 12 = .ok (.aload_n 1, 1) := by decide +kernel
theorem dX4_refuseMissing_13 : decode cX4_refuseMissing 13 = .ok (.iload_n 2, 1) := by decide +kernel
theorem dX4_refuseMissing_14 : decode cX4_refuseMissing 14 = .ok (.aaload, 1) := by decide +kernel
theorem dX4_refuseMissing_15 : decode cX4_refuseMissing 15 = .ok (.invokevirtual 89, 3) := by decide +kernel
theorem dX4_refuseMissing_18 : decode cX4_refuseMissing 18 = .ok (.ifCond .eq 11, 3) := by decide +kernel
theorem dX4_refuseMissing_21 : decode cX4_refuseMissing 21 = .ok (.aload_n 0, 1) := by decide +kernel
theorem dX4_refuseMissing_22 : decode cX4_refuseMissing 22 = .ok (.iconst 1, 1) := by decide +kernel
theorem dX4_refuseMissing_23 : decode cX4_refuseMissing 23 = .ok (.invokevirtual 67, 3) := by decide +kernel
theorem dX4_refuseMissing_26 : decode cX4_refuseMissing 26 = .ok (.goto 4, 3) := by decide +kernel
theorem dX4_refuseMissing_29 : decode cX4_refuseMissing 29 = .ok (.iconst 0, 1) := by decide +kernel
theorem dX4_refuseMissing_30 : decode cX4_refuseMissing 30 = .ok (.ireturn, 1) := by decide +kernel
theorem dX4_refusePlace_0 : decode cX4_refusePlace 0 = .ok (.aload_n 0, 1) := by decide +kernel
theorem dX4_refusePlace_1 : decode cX4_refusePlace 1 = .ok (.aload_n 1, 1) := by decide +kernel
theorem dX4_refusePlace_2 : decode cX4_refusePlace 2 = .ok (.iload_n 2, 1) := by decide +kernel
theorem dX4_refusePlace_3 : decode cX4_refusePlace 3 = .ok (.invokevirtual 82, 3) := by decide +kernel
theorem dX4_refusePlace_6 : decode cX4_refusePlace 6 = .ok (.istore 4, 2) := by decide +kernel
theorem dX4_refusePlace_8 : decode cX4_refusePlace 8 = .ok (.iload 4, 2) := by decide +kernel
theorem dX4_refusePlace_10 : decode cX4_refusePlace 10 = .ok (.ifCond .eq 6, 3) := by decide +kernel
theorem dX4_refusePlace_13 : decode cX4_refusePlace 13 = .ok (.iload 4, 2) := by decide +kernel
theorem dX4_refusePlace_15 : decode cX4_refusePlace 15 = .ok (.ireturn, 1) := by decide +kernel
theorem dX4_refusePlace_16 : decode cX4_refusePlace 16 = .ok (.aload_n 1, 1) := by decide +kernel
theorem dX4_refusePlace_17 : decode cX4_refusePlace 17 = .ok (.iload_n 2, 1) := by decide +kernel
theorem dX4_refusePlace_18 : decode cX4_refusePlace 18 = .ok (.aaload, 1) := by decide +kernel
theorem dX4_refusePlace_19 : decode cX4_refusePlace 19 = .ok (.iload_n 3, 1) := by decide +kernel
theorem dX4_refusePlace_20 : decode cX4_refusePlace 20 = .ok (.invokevirtual 345, 3) := by decide +kernel
theorem dX4_refusePlace_23 : decode cX4_refusePlace 23 = .ok (.ifCond .eq 7, 3) := by decide +kernel
theorem dX4_refusePlace_26 : decode cX4_refusePlace 26 = .ok (.iconst 0, 1) := by decide +kernel
theorem dX4_refusePlace_27 : decode cX4_refusePlace 27 = .ok (.goto 8, 3) := by decide +kernel
theorem dX4_refusePlace_30 : decode cX4_refusePlace 30 = .ok (.aload_n 0, 1) := by decide +kernel
theorem dX4_refusePlace_31 : decode cX4_refusePlace 31 = .ok (.iconst 2, 1) := by decide +kernel
theorem dX4_refusePlace_32 : decode cX4_refusePlace 32 = .ok (.invokevirtual 67, 3) := by decide +kernel
theorem dX4_refusePlace_35 : decode cX4_refusePlace 35 = .ok (.ireturn, 1) := by decide +kernel
theorem dX4_ofOne_0 : decode cX4_ofOne 0 = .ok (.iload_n 2, 1) := by decide +kernel
theorem dX4_ofOne_1 : decode cX4_ofOne 1 = .ok (.tableswitch 84 0 4 #[35, 45, 55, 65, 74], 35) := by decide +kernel
theorem dX4_ofOne_36 : decode cX4_ofOne 36 = .ok (.aload_n 0, 1) := by decide +kernel
theorem dX4_ofOne_37 : decode cX4_ofOne 37 = .ok (.getfield 21, 3) := by decide +kernel
theorem dX4_ofOne_40 : decode cX4_ofOne 40 = .ok (.getfield 288, 3) := by decide +kernel
theorem dX4_ofOne_43 : decode cX4_ofOne 43 = .ok (.iload_n 1, 1) := by decide +kernel
theorem dX4_ofOne_44 : decode cX4_ofOne 44 = .ok (.iaload, 1) := by decide +kernel
theorem dX4_ofOne_45 : decode cX4_ofOne 45 = .ok (.ireturn, 1) := by decide +kernel
theorem dX4_ofOne_46 : decode cX4_ofOne 46 = .ok (.aload_n 0, 1) := by decide +kernel
theorem dX4_ofOne_47 : decode cX4_ofOne 47 = .ok (.getfield 21, 3) := by decide +kernel
theorem dX4_ofOne_50 : decode cX4_ofOne 50 = .ok (.getfield 137, 3) := by decide +kernel
theorem dX4_ofOne_53 : decode cX4_ofOne 53 = .ok (.iload_n 1, 1) := by decide +kernel
theorem dX4_ofOne_54 : decode cX4_ofOne 54 = .ok (.iaload, 1) := by decide +kernel
theorem dX4_ofOne_55 : decode cX4_ofOne 55 = .ok (.ireturn, 1) := by decide +kernel
theorem dX4_ofOne_56 : decode cX4_ofOne 56 = .ok (.aload_n 0, 1) := by decide +kernel
theorem dX4_ofOne_57 : decode cX4_ofOne 57 = .ok (.getfield 21, 3) := by decide +kernel
theorem dX4_ofOne_60 : decode cX4_ofOne 60 = .ok (.getfield 140, 3) := by decide +kernel
