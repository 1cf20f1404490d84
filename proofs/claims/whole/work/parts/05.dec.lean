theorem dX5_init_0 : decode cX5_init 0 = .ok (.aload_n 0, 1) := by decide +kernel
theorem dX5_init_1 : decode cX5_init 1 = .ok (.invokespecial 1, 3) := by decide +kernel
theorem dX5_init_4 : decode cX5_init 4 = .ok (.aload_n 0, 1) := by decide +kernel
theorem dX5_init_5 : decode cX5_init 5 = .ok (.bipush 6, 2) := by decide +kernel
theorem dX5_init_7 : decode cX5_init 7 = .ok (.newarray .int, 2) := by decide +kernel
theorem dX5_init_9 : decode cX5_init 9 = .ok (.putfield 7, 3) := by decide +kernel
theorem dX5_init_12 : decode cX5_init 12 = .ok (.aload_n 0, 1) := by decide +kernel
theorem dX5_init_13 : decode cX5_init 13 = .ok (.sipush 240, 3) := by decide +kernel
theorem dX5_init_16 : decode cX5_init 16 = .ok (.newarray .int, 2) := by decide +kernel
theorem dX5_init_18 : decode cX5_init 18 = .ok (.putfield 13, 3) := by decide +kernel
theorem dX5_init_21 : decode cX5_init 21 = .ok (.aload_n 0, 1) := by decide +kernel
theorem dX5_init_22 : decode cX5_init 22 = .ok (.bipush 40, 2) := by decide +kernel
theorem dX5_init_24 : decode cX5_init 24 = .ok (.newarray .int, 2) := by decide +kernel
theorem dX5_init_26 : decode cX5_init 26 = .ok (.putfield 16, 3) := by decide +kernel
theorem dX5_init_29 : decode cX5_init 29 = .ok (.aload_n 0, 1) := by decide +kernel
theorem dX5_init_30 : decode cX5_init 30 = .ok (.iconst 4, 1) := by decide +kernel
theorem dX5_init_31 : decode cX5_init 31 = .ok (.newarray .int, 2) := by decide +kernel
theorem dX5_init_33 : decode cX5_init 33 = .ok (.putfield 19, 3) := by decide +kernel
theorem dX5_init_36 : decode cX5_init 36 = .ok (.aload_n 0, 1) := by decide +kernel
theorem dX5_init_37 : decode cX5_init 37 = .ok (.sipush 240, 3) := by decide +kernel
theorem dX5_init_40 : decode cX5_init 40 = .ok (.newarray .int, 2) := by decide +kernel
theorem dX5_init_42 : decode cX5_init 42 = .ok (.putfield 22, 3) := by decide +kernel
theorem dX5_init_45 : decode cX5_init 45 = .ok (.aload_n 0, 1) := by decide +kernel
theorem dX5_init_46 : decode cX5_init 46 = .ok (.sipush 400, 3) := by decide +kernel
theorem dX5_init_49 : decode cX5_init 49 = .ok (.newarray .int, 2) := by decide +kernel
theorem dX5_init_51 : decode cX5_init 51 = .ok (.putfield 25, 3) := by decide +kernel
theorem dX5_init_54 : decode cX5_init 54 = .ok (.aload_n 0, 1) := by decide +kernel
theorem dX5_init_55 : decode cX5_init 55 = .ok (.sipush 400, 3) := by decide +kernel
theorem dX5_init_58 : decode cX5_init 58 = .ok (.newarray .int, 2) := by decide +kernel
theorem dX5_init_60 : decode cX5_init 60 = .ok (.putfield 28, 3) := by decide +kernel
theorem dX5_init_63 : decode cX5_init 63 = .ok (.aload_n 0, 1) := by decide +kernel
theorem dX5_init_64 : decode cX5_init 64 = .ok (.sipush 1200, 3) := by decide +kernel
theorem dX5_init_67 : decode cX5_init 67 = .ok (.newarray .int, 2) := by decide +kernel
theorem dX5_init_69 : decode cX5_init 69 = .ok (.putfield 31, 3) := by decide +kernel
theorem dX5_init_72 : decode cX5_init 72 = .ok (.aload_n 0, 1) := by decide +kernel
theorem dX5_init_73 : decode cX5_init 73 = .ok (.iconst 3, 1) := by decide +kernel
theorem dX5_init_74 : decode cX5_init 74 = .ok (.newarray .boolean, 2) := by decide +kernel
theorem dX5_init_76 : decode cX5_init 76 = .ok (.putfield 34, 3) := by decide +kernel
theorem dX5_init_79 : decode cX5_init 79 = .ok (.aload_n 0, 1) := by decide +kernel
theorem dX5_init_80 : decode cX5_init 80 = .ok (.bipush 6, 2) := by decide +kernel
theorem dX5_init_82 : decode cX5_init 82 = .ok (.newarray .int, 2) := by decide +kernel
theorem dX5_init_84 : decode cX5_init 84 = .ok (.putfield 38, 3) := by decide +kernel
theorem dX5_init_87 : decode cX5_init 87 = .ok (.aload_n 0, 1) := by decide +kernel
theorem dX5_init_88 : decode cX5_init 88 = .ok (.bipush 6, 2) := by decide +kernel
theorem dX5_init_90 : decode cX5_init 90 = .ok (.newarray .int, 2) := by decide +kernel
theorem dX5_init_92 : decode cX5_init 92 = .ok (.putfield 41, 3) := by decide +kernel
theorem dX5_init_95 : decode cX5_init 95 = .ok (.aload_n 0, 1) := by decide +kernel
theorem dX5_init_96 : decode cX5_init 96 = .ok (.bipush 62, 2) := by decide +kernel
theorem dX5_init_98 : decode cX5_init 98 = .ok (.newarray .int, 2) := by decide +kernel
theorem dX5_init_100 : decode cX5_init 100 = .ok (.putfield 44, 3) := by decide +kernel
theorem dX5_init_103 : decode cX5_init 103 = .ok (.aload_n 0, 1) := by decide +kernel
theorem dX5_init_104 : decode cX5_init 104 = .ok (.bipush 7, 2) := by decide +kernel
theorem dX5_init_106 : decode cX5_init 106 = .ok (.newarray .int, 2) := by decide +kernel
theorem dX5_init_108 : decode cX5_init 108 = .ok (.putfield 47, 3) := by decide +kernel
theorem dX5_init_111 : decode cX5_init 111 = .ok (.aload_n 0, 1) := by decide +kernel
theorem dX5_init_112 : decode cX5_init 112 = .ok (.bipush 7, 2) := by decide +kernel
theorem dX5_init_114 : decode cX5_init 114 = .ok (.newarray .int, 2) := by decide +kernel
theorem dX5_init_116 : decode cX5_init 116 = .ok (.putfield 50, 3) := by decide +kernel
theorem dX5_init_119 : decode cX5_init 119 = .ok (.aload_n 0, 1) := by decide +kernel
theorem dX5_init_120 : decode cX5_init 120 = .ok (.bipush 7, 2) := by decide +kernel
theorem dX5_init_122 : decode cX5_init 122 = .ok (.newarray .int, 2) := by decide +kernel
theorem dX5_init_124 : decode cX5_init 124 = .ok (.putfield 53, 3) := by decide +kernel
theorem dX5_init_127 : decode cX5_init 127 = .ok (.aload_n 0, 1) := by decide +kernel
theorem dX5_init_128 : decode cX5_init 128 = .ok (.bipush 7, 2) := by decide +kernel
theorem dX5_init_130 : decode cX5_init 130 = .ok (.newarray .int, 2) := by decide +kernel
theorem dX5_init_132 : decode cX5_init 132 = .ok (.putfield 56, 3) := by decide +kernel
theorem dX5_init_135 : decode cX5_init 135 = .ok (.iconst 0, 1) := by decide +kernel
theorem dX5_init_136 : decode cX5_init 136 = .ok (.istore_n 1, 1) := by decide +kernel
theorem dX5_init_137 : decode cX5_init 137 = .ok (.iload_n 1, 1) := by decide +kernel
theorem dX5_init_138 : decode cX5_init 138 = .ok (.bipush 6, 2) := by decide +kernel
theorem dX5_init_140 : decode cX5_init 140 = .ok (.if_icmp .ge 16, 3) := by decide +kernel
theorem dX5_init_143 : decode cX5_init 143 = .ok (.aload_n 0, 1) := by decide +kernel
theorem dX5_init_144 : decode cX5_init 144 = .ok (.getfield 7, 3) := by decide +kernel
theorem dX5_init_147 : decode cX5_init 147 = .ok (.iload_n 1, 1) := by decide +kernel
theorem dX5_init_148 : decode cX5_init 148 = .ok (.iconst (-1), 1) := by decide +kernel
theorem dX5_init_149 : decode cX5_init 149 = .ok (.iastore, 1) := by decide +kernel
theorem dX5_init_150 : decode cX5_init 150 = .ok (.iinc 1 1, 3) := by decide +kernel
theorem dX5_init_153 : decode cX5_init 153 = .ok (.goto (-16), 3) := by decide +kernel
theorem dX5_init_156 : decode cX5_init 156 = .ok (.iconst 0, 1) := by decide +kernel
theorem dX5_init_157 : decode cX5_init 157 = .ok (.istore_n 1, 1) := by decide +kernel
theorem dX5_init_158 : decode cX5_init 158 = .ok (.iload_n 1, 1) := by decide +kernel
theorem dX5_init_159 : decode cX5_init 159 = .ok (.iconst 4, 1) := by decide +kernel
theorem dX5_init_160 : decode cX5_init 160 = .ok (.if_icmp .ge 16, 3) := by decide +kernel
theorem dX5_init_163 : decode cX5_init 163 = .ok (.aload_n 0, 1) := by decide +kernel
theorem dX5_init_164 : decode cX5_init 164 = .ok (.getfield 19, 3) := by decide +kernel
theorem dX5_init_167 : decode cX5_init 167 = .ok (.iload_n 1, 1) := by decide +kernel
theorem dX5_init_168 : decode cX5_init 168 = .ok (.iconst (-1), 1) := by decide +kernel
theorem dX5_init_169 : decode cX5_init 169 = .ok (.iastore, 1) := by decide +kernel
theorem dX5_init_170 : decode cX5_init 170 = .ok (.iinc 1 1, 3) := by decide +kernel
theorem dX5_init_173 : decode cX5_init 173 = .ok (.goto (-15), 3) := by decide +kernel
theorem dX5_init_176 : decode cX5_init 176 = .ok (.aload_n 0, 1) := by decide +kernel
theorem dX5_init_177 : decode cX5_init 177 = .ok (.lconst 1, 1) := by decide +kernel
theorem dX5_init_178 : decode cX5_init 178 = .ok (.putfield 59, 3) := by decide +kernel
theorem dX5_init_181 : decode cX5_init 181 = .ok (.return_, 1) := by decide +kernel
theorem dX5_in_0 : decode cX5_in 0 = .ok (.iload_n 0, 1) := by decide +kernel
theorem dX5_in_1 : decode cX5_in 1 = .ok (.iload_n 1, 1) := by decide +kernel
theorem dX5_in_2 : decode cX5_in 2 = .ok (.if_icmp .lt 12, 3) := by decide +kernel
theorem dX5_in_5 : decode cX5_in 5 = .ok (.iload_n 0, 1) := by decide +kernel
theorem dX5_in_6 : decode cX5_in 6 = .ok (.iload_n 2, 1) := by decide +kernel
theorem dX5_in_7 : decode cX5_in 7 = .ok (.if_icmp .gt 7, 3) := by decide +kernel
theorem dX5_in_10 : decode cX5_in 10 = .ok (.iconst 1, 1) := by decide +kernel
theorem dX5_in_11 : decode cX5_in 11 = .ok (.goto 4, 3) := by decide +kernel
theorem dX5_in_14 : decode cX5_in 14 = .ok (.iconst 0, 1) := by decide +kernel
theorem dX5_in_15 : decode cX5_in 15 = .ok (.ireturn, 1) := by decide +kernel
theorem dX5_has_0 : decode cX5_has 0 = .ok (.iload_n 0, 1) := by decide +kernel
theorem dX5_has_1 : decode cX5_has 1 = .ok (.iload_n 1, 1) := by decide +kernel
theorem dX5_has_2 : decode cX5_has 2 = .ok (.ishr, 1) := by decide +kernel
theorem dX5_has_3 : decode cX5_has 3 = .ok (.iconst 1, 1) := by decide +kernel
theorem dX5_has_4 : decode cX5_has 4 = .ok (.iand, 1) := by decide +kernel
theorem dX5_has_5 : decode cX5_has 5 = .ok (.iconst 1, 1) := by decide +kernel
theorem dX5_has_6 : decode cX5_has 6 = .ok (.if_icmp .ne 7, 3) := by decide +kernel
theorem dX5_has_9 : decode cX5_has 9 = .ok (.iconst 1, 1) := by decide +kernel
theorem dX5_has_10 : decode cX5_has 10 = .ok (.goto 4, 3) := by decide +kernel
theorem dX5_has_13 : decode cX5_has 13 = .ok (.iconst 0, 1) := by decide +kernel
theorem dX5_has_14 : decode cX5_has 14 = .ok (.ireturn, 1) := by decide +kernel
theorem dX5_ones_0 : decode cX5_ones 0 = .ok (.iconst 0, 1) := by decide +kernel
theorem dX5_ones_1 : decode cX5_ones 1 = .ok (.istore_n 1, 1) := by decide +kernel
theorem dX5_ones_2 : decode cX5_ones 2 = .ok (.iconst 0, 1) := by decide +kernel
theorem dX5_ones_3 : decode cX5_ones 3 = .ok (.istore_n 2, 1) := by decide +kernel
theorem dX5_ones_4 : decode cX5_ones 4 = .ok (.iload_n 2, 1) := by decide +kernel
theorem dX5_ones_5 : decode cX5_ones 5 = .ok (.bipush 24, 2) := by decide +kernel
theorem dX5_ones_7 : decode cX5_ones 7 = .ok (.if_icmp .ge 17, 3) := by decide +kernel
theorem dX5_ones_10 : decode cX5_ones 10 = .ok (.iload_n 1, 1) := by decide +kernel
theorem dX5_ones_11 : decode cX5_ones 11 = .ok (.iload_n 0, 1) := by decide +kernel
theorem dX5_ones_12 : decode cX5_ones 12 = .ok (.iload_n 2, 1) := by decide +kernel
theorem dX5_ones_13 : decode cX5_ones 13 = .ok (.ishr, 1) := by decide +kernel
theorem dX5_ones_14 : decode cX5_ones 14 = .ok (.iconst 1, 1) := by decide +kernel
theorem dX5_ones_15 : decode cX5_ones 15 = .ok (.iand, 1) := by decide +kernel
theorem dX5_ones_16 : decode cX5_ones 16 = .ok (.iadd, 1) := by decide +kernel
theorem dX5_ones_17 : decode cX5_ones 17 = .ok (.istore_n 1, 1) := by decide +kernel
theorem dX5_ones_18 : decode cX5_ones 18 = .ok (.iinc 2 1, 3) := by decide +kernel
theorem dX5_ones_21 : decode cX5_ones 21 = .ok (.goto (-17), 3) := by decide +kernel
theorem dX5_ones_24 : decode cX5_ones 24 = .ok (.iload_n 1, 1) := by decide +kernel
theorem dX5_ones_25 : decode cX5_ones 25 = .ok (.ireturn, 1) := by decide +kernel
theorem dX5_off_0 : decode cX5_off 0 = .ok (.iload_n 0, 1) := by decide +kernel
theorem dX5_off_1 : decode cX5_off 1 = .ok (.iload_n 1, 1) := by decide +kernel
theorem dX5_off_2 : decode cX5_off 2 = .ok (.if_icmp .le 9, 3) := by decide +kernel
theorem dX5_off_5 : decode cX5_off 5 = .ok (.iload_n 0, 1) := by decide +kernel
theorem dX5_off_6 : decode cX5_off 6 = .ok (.iload_n 1, 1) := by decide +kernel
theorem dX5_off_7 : decode cX5_off 7 = .ok (.isub, 1) := by decide +kernel
theorem dX5_off_8 : decode cX5_off 8 = .ok (.goto 6, 3) := by decide +kernel
theorem dX5_off_11 : decode cX5_off 11 = .ok (.iload_n 1, 1) := by decide +kernel
theorem dX5_off_12 : decode cX5_off 12 = .ok (.iload_n 0, 1) := by decide +kernel
theorem dX5_off_13 : decode cX5_off 13 = .ok (.isub, 1) := by decide +kernel
theorem dX5_off_14 : decode cX5_off 14 = .ok (.ireturn, 1) := by decide +kernel
theorem dX5_finds_0 : decode cX5_finds 0 = .ok (.aload_n 0, 1) := by decide +kernel
theorem dX5_finds_1 : decode cX5_finds 1 = .ok (.iload_n 1, 1) := by decide +kernel
theorem dX5_finds_2 : decode cX5_finds 2 = .ok (.putfield 63, 3) := by decide +kernel
theorem dX5_finds_5 : decode cX5_finds 5 = .ok (.aload_n 0, 1) := by decide +kernel
theorem dX5_finds_6 : decode cX5_finds 6 = .ok (.getfield 38, 3) := by decide +kernel
theorem dX5_finds_9 : decode cX5_finds 9 = .ok (.iload_n 1, 1) := by decide +kernel
theorem dX5_finds_10 : decode cX5_finds 10 = .ok (.dup2, 1) := by decide +kernel
theorem dX5_finds_11 : decode cX5_finds 11 = .ok (.iaload, 1) := by decide +kernel
theorem dX5_finds_12 : decode cX5_finds 12 = .ok (.iconst 1, 1) := by decide +kernel
theorem dX5_finds_13 : decode cX5_finds 13 = .ok (.iadd, 1) := by decide +kernel
theorem dX5_finds_14 : decode cX5_finds 14 = .ok (.iastore, 1) := by decide +kernel
theorem dX5_finds_15 : decode cX5_finds 15 = .ok (.bipush (-3), 2) := by decide +kernel
theorem dX5_finds_17 : decode cX5_finds 17 = .ok (.ireturn, 1) := by decide +kernel
theorem dX5_tells_0 : decode cX5_tells 0 = .ok (.aload_n 0, 1) := by decide +kernel
theorem dX5_tells_1 : decode cX5_tells 1 = .ok (.iload_n 2, 1) := by decide +kernel
theorem dX5_tells_2 : decode cX5_tells 2 = .ok (.putfield 67, 3) := by decide +kernel
theorem dX5_tells_5 : decode cX5_tells 5 = .ok (.iload_n 1, 1) := by decide +kernel
theorem dX5_tells_6 : decode cX5_tells 6 = .ok (.ireturn, 1) := by decide +kernel
theorem dX5_tellsParts_0 : decode cX5_tellsParts 0 = .ok (.lload_n 1, 1) := by decide +kernel
theorem dX5_tellsParts_1 : decode cX5_tellsParts 1 = .ok (.lstore 5, 2) := by decide +kernel
theorem dX5_tellsParts_3 : decode cX5_tellsParts 3 = .ok (.lload_n 3, 1) := by decide +kernel
theorem dX5_tellsParts_4 : decode cX5_tellsParts 4 = .ok (.lstore 7, 2) := by decide +kernel
theorem dX5_tellsParts_6 : decode cX5_tellsParts 6 = .ok (.lload 7, 2) := by decide +kernel
theorem dX5_tellsParts_8 : decode cX5_tellsParts 8 = .ok (.lconst 0, 1) := by decide +kernel
theorem dX5_tellsParts_9 : decode cX5_tellsParts 9 = .ok (.lcmp, 1) := by decide +kernel
theorem dX5_tellsParts_10 : decode cX5_tellsParts 10 = .ok (.ifCond .eq 21, 3) := by decide +kernel
theorem dX5_tellsParts_13 : decode cX5_tellsParts 13 = .ok (.lload 5, 2) := by decide +kernel
theorem dX5_tellsParts_15 : decode cX5_tellsParts 15 = .ok (.lload 7, 2) := by decide +kernel
theorem dX5_tellsParts_17 : decode cX5_tellsParts 17 = .ok (.lrem, 1) := by decide +kernel
theorem dX5_tellsParts_18 : decode cX5_tellsParts 18 = .ok (.lstore 9, 2) := by decide +kernel
theorem dX5_tellsParts_20 : decode cX5_tellsParts 20 = .ok (.lload 7, 2) := by decide +kernel
theorem dX5_tellsParts_22 : decode cX5_tellsParts 22 = .ok (.lstore 5, 2) := by decide +kernel
theorem dX5_tellsParts_24 : decode cX5_tellsParts 24 = .ok (.lload 9, 2) := by decide +kernel
theorem dX5_tellsParts_26 : decode cX5_tellsParts 26 = .ok (.lstore 7, 2) := by decide +kernel
theorem dX5_tellsParts_28 : decode cX5_tellsParts 28 = .ok (.goto (-22), 3) := by decide +kernel
theorem dX5_tellsParts_31 : decode cX5_tellsParts 31 = .ok (.aload_n 0, 1) := by decide +kernel
theorem dX5_tellsParts_32 : decode cX5_tellsParts 32 = .ok (.lload_n 1, 1) := by decide +kernel
theorem dX5_tellsParts_33 : decode cX5_tellsParts 33 = .ok (.lload 5, 2) := by decide +kernel
theorem dX5_tellsParts_35 : decode cX5_tellsParts 35 = .ok (.ldiv, 1) := by decide +kernel
theorem dX5_tellsParts_36 : decode cX5_tellsParts 36 = .ok (.putfield 70, 3) := by decide +kernel
theorem dX5_tellsParts_39 : decode cX5_tellsParts 39 = .ok (.aload_n 0, 1) := by decide +kernel
theorem dX5_tellsParts_40 : decode cX5_tellsParts 40 = .ok (.lload_n 3, 1) := by decide +kernel
theorem dX5_tellsParts_41 : decode cX5_tellsParts 41 = .ok (.lload 5, 2) := by decide +kernel
theorem dX5_tellsParts_43 : decode cX5_tellsParts 43 = .ok (.ldiv, 1) := by decide +kernel
theorem dX5_tellsParts_44 : decode cX5_tellsParts 44 = .ok (.putfield 59, 3) := by decide +kernel
theorem dX5_tellsParts_47 : decode cX5_tellsParts 47 = .ok (.iconst 1, 1) := by decide +kernel
theorem dX5_tellsParts_48 : decode cX5_tellsParts 48 = .ok (.ireturn, 1) := by decide +kernel
theorem dX5_isRow_0 : decode cX5_isRow 0 = .ok (.iload_n 0, 1) := by decide +kernel
theorem dX5_isRow_1 : decode cX5_isRow 1 = .ok (.iconst 0, 1) := by decide +kernel
theorem dX5_isRow_2 : decode cX5_isRow 2 = .ok (.iconst 5, 1) := by decide +kernel
theorem dX5_isRow_3 : decode cX5_isRow 3 = .ok (.invokestatic 73, 3) := by decide +kernel
theorem dX5_isRow_6 : decode cX5_isRow 6 = .ok (.ireturn, 1) := by decide +kernel
theorem dX5_isText_0 : decode cX5_isText 0 = .ok (.iload_n 0, 1) := by decide +kernel
theorem dX5_isText_1 : decode cX5_isText 1 = .ok (.iconst 0, 1) := by decide +kernel
theorem dX5_isText_2 : decode cX5_isText 2 = .ok (.iconst 3, 1) := by decide +kernel
theorem dX5_isText_3 : decode cX5_isText 3 = .ok (.invokestatic 73, 3) := by decide +kernel
theorem dX5_isText_6 : decode cX5_isText 6 = .ok (.ireturn, 1) := by decide +kernel
theorem dX5_lays_0 : decode cX5_lays 0 = .ok (.aload_n 0, 1) := by decide +kernel
theorem dX5_lays_1 : decode cX5_lays 1 = .ok (.getfield 7, 3) := by decide +kernel
theorem dX5_lays_4 : decode cX5_lays 4 = .ok (.iload_n 1, 1) := by decide +kernel
theorem dX5_lays_5 : decode cX5_lays 5 = .ok (.iload_n 2, 1) := by decide +kernel
theorem dX5_lays_6 : decode cX5_lays 6 = .ok (.iastore, 1) := by decide +kernel
theorem dX5_lays_7 : decode cX5_lays 7 = .ok (.iconst 0, 1) := by decide +kernel
theorem dX5_lays_8 : decode cX5_lays 8 = .ok (.istore_n 3, 1) := by decide +kernel
theorem dX5_lays_9 : decode cX5_lays 9 = .ok (.iload_n 3, 1) := by decide +kernel
theorem dX5_lays_10 : decode cX5_lays 10 = .ok (.bipush 40, 2) := by decide +kernel
theorem dX5_lays_12 : decode cX5_lays 12 = .ok (.if_icmp .ge 21, 3) := by decide +kernel
theorem dX5_lays_15 : decode cX5_lays 15 = .ok (.aload_n 0, 1) := by decide +kernel
theorem dX5_lays_16 : decode cX5_lays 16 = .ok (.getfield 13, 3) := by decide +kernel
theorem dX5_lays_19 : decode cX5_lays 19 = .ok (.bipush 40, 2) := by decide +kernel
theorem dX5_lays_21 : decode cX5_lays 21 = .ok (.iload_n 1, 1) := by decide +kernel
theorem dX5_lays_22 : decode cX5_lays 22 = .ok (.imul, 1) := by decide +kernel
theorem dX5_lays_23 : decode cX5_lays 23 = .ok (.iload_n 3, 1) := by decide +kernel
theorem dX5_lays_24 : decode cX5_lays 24 = .ok (.iadd, 1) := by decide +kernel
theorem dX5_lays_25 : decode cX5_lays 25 = .ok (.iconst 0, 1) := by decide +kernel
theorem dX5_lays_26 : decode cX5_lays 26 = .ok (.iastore, 1) := by decide +kernel
theorem dX5_lays_27 : decode cX5_lays 27 = .ok (.iinc 3 1, 3) := by decide +kernel
theorem dX5_lays_30 : decode cX5_lays 30 = .ok (.goto (-21), 3) := by decide +kernel
theorem dX5_lays_33 : decode cX5_lays 33 = .ok (.return_, 1) := by decide +kernel
theorem dX5_row_0 : decode cX5_row 0 = .ok (.iload_n 1, 1) := by decide +kernel
theorem dX5_row_1 : decode cX5_row 1 = .ok (.invokestatic 77, 3) := by decide +kernel
theorem dX5_row_4 : decode cX5_row 4 = .ok (.ifCond .eq 9, 3) := by decide +kernel
theorem dX5_row_7 : decode cX5_row 7 = .ok (.iload_n 2, 1) := by decide +kernel
theorem dX5_row_8 : decode cX5_row 8 = .ok (.bipush 40, 2) := by decide +kernel
theorem dX5_row_10 : decode cX5_row 10 = .ok (.if_icmp .le 5, 3) := by decide +kernel
theorem dX5_row_13 : decode cX5_row 13 = .ok (.iconst (-1), 1) := by decide +kernel
theorem dX5_row_14 : decode cX5_row 14 = .ok (.ireturn, 1) := by decide +kernel
theorem dX5_row_15 : decode cX5_row 15 = .ok (.iload_n 2, 1) := by decide +kernel
theorem dX5_row_16 : decode cX5_row 16 = .ok (.ifCond .ge 9, 3) := by decide +kernel
theorem dX5_row_19 : decode cX5_row 19 = .ok (.aload_n 0, 1) := by decide +kernel
theorem dX5_row_20 : decode cX5_row 20 = .ok (.iconst 5, 1) := by decide +kernel
theorem dX5_row_21 : decode cX5_row 21 = .ok (.invokevirtual 81, 3) := by decide +kernel
theorem dX5_row_24 : decode cX5_row 24 = .ok (.ireturn, 1) := by decide +kernel
theorem dX5_row_25 : decode cX5_row 25 = .ok (.aload_n 0, 1) := by decide +kernel
theorem dX5_row_26 : decode cX5_row 26 = .ok (.iload_n 1, 1) := by decide +kernel
theorem dX5_row_27 : decode cX5_row 27 = .ok (.iload_n 2, 1) := by decide +kernel
theorem dX5_row_28 : decode cX5_row 28 = .ok (.invokevirtual 85, 3) := by decide +kernel
theorem dX5_row_31 : decode cX5_row 31 = .ok (.iload_n 2, 1) := by decide +kernel
theorem dX5_row_32 : decode cX5_row 32 = .ok (.ireturn, 1) := by decide +kernel
theorem dX5_lay_0 : decode cX5_lay 0 = .ok (.aload_n 0, 1) := by decide +kernel
theorem dX5_lay_1 : decode cX5_lay 1 = .ok (.iload_n 1, 1) := by decide +kernel
theorem dX5_lay_2 : decode cX5_lay 2 = .ok (.iload_n 2, 1) := by decide +kernel
theorem dX5_lay_3 : decode cX5_lay 3 = .ok (.invokevirtual 89, 3) := by decide +kernel
theorem dX5_lay_6 : decode cX5_lay 6 = .ok (.istore 4, 2) := by decide +kernel
theorem dX5_lay_8 : decode cX5_lay 8 = .ok (.iload 4, 2) := by decide +kernel
theorem dX5_lay_10 : decode cX5_lay 10 = .ok (.iconst 1, 1) := by decide +kernel
theorem dX5_lay_11 : decode cX5_lay 11 = .ok (.if_icmp .ne 15, 3) := by decide +kernel
theorem dX5_lay_14 : decode cX5_lay 14 = .ok (.aload_n 0, 1) := by decide +kernel
theorem dX5_lay_15 : decode cX5_lay 15 = .ok (.getfield 13, 3) := by decide +kernel
theorem dX5_lay_18 : decode cX5_lay 18 = .ok (.bipush 40, 2) := by decide +kernel
theorem dX5_lay_20 : decode cX5_lay 20 = .ok (.iload_n 1, 1) := by decide +kernel
theorem dX5_lay_21 : decode cX5_lay 21 = .ok (.imul, 1) := by decide +kernel
theorem dX5_lay_22 : decode cX5_lay 22 = .ok (.iload_n 2, 1) := by decide +kernel
theorem dX5_lay_23 : decode cX5_lay 23 = .ok (.iadd, 1) := by decide +kernel
theorem dX5_lay_24 : decode cX5_lay 24 = .ok (.iload_n 3, 1) := by decide +kernel
theorem dX5_lay_25 : decode cX5_lay 25 = .ok (.iastore, 1) := by decide +kernel
theorem dX5_lay_26 : decode cX5_lay 26 = .ok (.iload 4, 2) := by decide +kernel
theorem dX5_lay_28 : decode cX5_lay 28 = .ok (.ireturn, 1) := by decide +kernel
theorem dX5_at_0 : decode cX5_at 0 = .ok (.iload_n 1, 1) := by decide +kernel
theorem dX5_at_1 : decode cX5_at 1 = .ok (.invokestatic 77, 3) := by decide +kernel
theorem dX5_at_4 : decode cX5_at 4 = .ok (.ifCond .ne 5, 3) := by decide +kernel
theorem dX5_at_7 : decode cX5_at 7 = .ok (.iconst (-1), 1) := by decide +kernel
theorem dX5_at_8 : decode cX5_at 8 = .ok (.ireturn, 1) := by decide +kernel
theorem dX5_at_9 : decode cX5_at 9 = .ok (.aload_n 0, 1) := by decide +kernel
theorem dX5_at_10 : decode cX5_at 10 = .ok (.getfield 7, 3) := by decide +kernel
theorem dX5_at_13 : decode cX5_at 13 = .ok (.iload_n 1, 1) := by decide +kernel
theorem dX5_at_14 : decode cX5_at 14 = .ok (.iaload, 1) := by decide +kernel
theorem dX5_at_15 : decode cX5_at 15 = .ok (.ifCond .ge 9, 3) := by decide +kernel
theorem dX5_at_18 : decode cX5_at 18 = .ok (.aload_n 0, 1) := by decide +kernel
theorem dX5_at_19 : decode cX5_at 19 = .ok (.iconst 1, 1) := by decide +kernel
theorem dX5_at_20 : decode cX5_at 20 = .ok (.invokevirtual 81, 3) := by decide +kernel
theorem dX5_at_23 : decode cX5_at 23 = .ok (.ireturn, 1) := by decide +kernel
theorem dX5_at_24 : decode cX5_at 24 = .ok (.iload_n 2, 1) := by decide +kernel
theorem dX5_at_25 : decode cX5_at 25 = .ok (.iconst 0, 1) := by decide +kernel
theorem dX5_at_26 : decode cX5_at 26 = .ok (.aload_n 0, 1) := by decide +kernel
theorem dX5_at_27 : decode cX5_at 27 = .ok (.getfield 7, 3) := by decide +kernel
theorem dX5_at_30 : decode cX5_at 30 = .ok (.iload_n 1, 1) := by decide +kernel
theorem dX5_at_31 : decode cX5_at 31 = .ok (.iaload, 1) := by decide +kernel
theorem dX5_at_32 : decode cX5_at 32 = .ok (.iconst 1, 1) := by decide +kernel
theorem dX5_at_33 : decode cX5_at 33 = .ok (.isub, 1) := by decide +kernel
theorem dX5_at_34 : decode cX5_at 34 = .ok (.invokestatic 73, 3) := by decide +kernel
theorem dX5_at_37 : decode cX5_at 37 = .ok (.ifCond .eq 22, 3) := by decide +kernel
theorem dX5_at_40 : decode cX5_at 40 = .ok (.aload_n 0, 1) := by decide +kernel
theorem dX5_at_41 : decode cX5_at 41 = .ok (.iconst 1, 1) := by decide +kernel
theorem dX5_at_42 : decode cX5_at 42 = .ok (.aload_n 0, 1) := by decide +kernel
theorem dX5_at_43 : decode cX5_at 43 = .ok (.getfield 13, 3) := by decide +kernel
theorem dX5_at_46 : decode cX5_at 46 = .ok (.bipush 40, 2) := by decide +kernel
theorem dX5_at_48 : decode cX5_at 48 = .ok (.iload_n 1, 1) := by decide +kernel
theorem dX5_at_49 : decode cX5_at 49 = .ok (.imul, 1) := by decide +kernel
theorem dX5_at_50 : decode cX5_at 50 = .ok (.iload_n 2, 1) := by decide +kernel
theorem dX5_at_51 : decode cX5_at 51 = .ok (.iadd, 1) := by decide +kernel
theorem dX5_at_52 : decode cX5_at 52 = .ok (.iaload, 1) := by decide +kernel
theorem dX5_at_53 : decode cX5_at 53 = .ok (.invokevirtual 93, 3) := by decide +kernel
theorem dX5_at_56 : decode cX5_at 56 = .ok (.goto 8, 3) := by decide +kernel
theorem dX5_at_59 : decode cX5_at 59 = .ok (.aload_n 0, 1) := by decide +kernel
theorem dX5_at_60 : decode cX5_at 60 = .ok (.iconst 2, 1) := by decide +kernel
theorem dX5_at_61 : decode cX5_at 61 = .ok (.invokevirtual 81, 3) := by decide +kernel
theorem dX5_at_64 : decode cX5_at 64 = .ok (.ireturn, 1) := by decide +kernel
theorem dX5_tear_0 : decode cX5_tear 0 = .ok (.iload_n 1, 1) := by decide +kernel
theorem dX5_tear_1 : decode cX5_tear 1 = .ok (.invokestatic 77, 3) := by decide +kernel
theorem dX5_tear_4 : decode cX5_tear 4 = .ok (.ifCond .ne 5, 3) := by decide +kernel
theorem dX5_tear_7 : decode cX5_tear 7 = .ok (.iconst (-1), 1) := by decide +kernel
theorem dX5_tear_8 : decode cX5_tear 8 = .ok (.ireturn, 1) := by decide +kernel
theorem dX5_tear_9 : decode cX5_tear 9 = .ok (.aload_n 0, 1) := by decide +kernel
theorem dX5_tear_10 : decode cX5_tear 10 = .ok (.getfield 7, 3) := by decide +kernel
theorem dX5_tear_13 : decode cX5_tear 13 = .ok (.iload_n 1, 1) := by decide +kernel
theorem dX5_tear_14 : decode cX5_tear 14 = .ok (.iaload, 1) := by decide +kernel
theorem dX5_tear_15 : decode cX5_tear 15 = .ok (.ifCond .ge 9, 3) := by decide +kernel
theorem dX5_tear_18 : decode cX5_tear 18 = .ok (.aload_n 0, 1) := by decide +kernel
theorem dX5_tear_19 : decode cX5_tear 19 = .ok (.iconst 1, 1) := by decide +kernel
theorem dX5_tear_20 : decode cX5_tear 20 = .ok (.invokevirtual 81, 3) := by decide +kernel
theorem dX5_tear_23 : decode cX5_tear 23 = .ok (.ireturn, 1) := by decide +kernel
theorem dX5_tear_24 : decode cX5_tear 24 = .ok (.aload_n 0, 1) := by decide +kernel
theorem dX5_tear_25 : decode cX5_tear 25 = .ok (.getfield 7, 3) := by decide +kernel
theorem dX5_tear_28 : decode cX5_tear 28 = .ok (.iload_n 1, 1) := by decide +kernel
theorem dX5_tear_29 : decode cX5_tear 29 = .ok (.iconst (-1), 1) := by decide +kernel
theorem dX5_tear_30 : decode cX5_tear 30 = .ok (.iastore, 1) := by decide +kernel
theorem dX5_tear_31 : decode cX5_tear 31 = .ok (.iconst 1, 1) := by decide +kernel
theorem dX5_tear_32 : decode cX5_tear 32 = .ok (.ireturn, 1) := by decide +kernel
theorem dX5_copy_0 : decode cX5_copy 0 = .ok (.iload_n 1, 1) := by decide +kernel
theorem dX5_copy_1 : decode cX5_copy 1 = .ok (.invokestatic 77, 3) := by decide +kernel
theorem dX5_copy_4 : decode cX5_copy 4 = .ok (.ifCond .eq 10, 3) := by decide +kernel
theorem dX5_copy_7 : decode cX5_copy 7 = .ok (.iload_n 3, 1) := by decide +kernel
theorem dX5_copy_8 : decode cX5_copy 8 = .ok (.invokestatic 77, 3) := by decide +kernel
theorem dX5_copy_11 : decode cX5_copy 11 = .ok (.ifCond .ne 5, 3) := by decide +kernel
theorem dX5_copy_14 : decode cX5_copy 14 = .ok (.iconst (-1), 1) := by decide +kernel
theorem dX5_copy_15 : decode cX5_copy 15 = .ok (.ireturn, 1) := by decide +kernel
theorem dX5_copy_16 : decode cX5_copy 16 = .ok (.iload 5, 2) := by decide +kernel
theorem dX5_copy_18 : decode cX5_copy 18 = .ok (.ifCond .ge 9, 3) := by decide +kernel
theorem dX5_copy_21 : decode cX5_copy 21 = .ok (.aload_n 0, 1) := by decide +kernel
theorem dX5_copy_22 : decode cX5_copy 22 = .ok (.iconst 5, 1) := by decide +kernel
theorem dX5_copy_23 : decode cX5_copy 23 = .ok (.invokevirtual 81, 3) := by decide +kernel
theorem dX5_copy_26 : decode cX5_copy 26 = .ok (.ireturn, 1) := by decide +kernel
theorem dX5_copy_27 : decode cX5_copy 27 = .ok (.aload_n 0, 1) := by decide +kernel
theorem dX5_copy_28 : decode cX5_copy 28 = .ok (.getfield 7, 3) := by decide +kernel
theorem dX5_copy_31 : decode cX5_copy 31 = .ok (.iload_n 1, 1) := by decide +kernel
theorem dX5_copy_32 : decode cX5_copy 32 = .ok (.iaload, 1) := by decide +kernel
theorem dX5_copy_33 : decode cX5_copy 33 = .ok (.ifCond .lt 12, 3) := by decide +kernel
theorem dX5_copy_36 : decode cX5_copy 36 = .ok (.aload_n 0, 1) := by decide +kernel
theorem dX5_copy_37 : decode cX5_copy 37 = .ok (.getfield 7, 3) := by decide +kernel
theorem dX5_copy_40 : decode cX5_copy 40 = .ok (.iload_n 3, 1) := by decide +kernel
theorem dX5_copy_41 : decode cX5_copy 41 = .ok (.iaload, 1) := by decide +kernel
theorem dX5_copy_42 : decode cX5_copy 42 = .ok (.ifCond .ge 9, 3) := by decide +kernel
theorem dX5_copy_45 : decode cX5_copy 45 = .ok (.aload_n 0, 1) := by decide +kernel
theorem dX5_copy_46 : decode cX5_copy 46 = .ok (.iconst 1, 1) := by decide +kernel
theorem dX5_copy_47 : decode cX5_copy 47 = .ok (.invokevirtual 81, 3) := by decide +kernel
theorem dX5_copy_50 : decode cX5_copy 50 = .ok (.ireturn, 1) := by decide +kernel
theorem dX5_copy_51 : decode cX5_copy 51 = .ok (.iload_n 2, 1) := by decide +kernel
theorem dX5_copy_52 : decode cX5_copy 52 = .ok (.ifCond .lt 43, 3) := by decide +kernel
theorem dX5_copy_55 : decode cX5_copy 55 = .ok (.iload 4, 2) := by decide +kernel
theorem dX5_copy_57 : decode cX5_copy 57 = .ok (.ifCond .lt 38, 3) := by decide +kernel
theorem dX5_copy_60 : decode cX5_copy 60 = .ok (.iload_n 2, 1) := by decide +kernel
theorem dX5_copy_61 : decode cX5_copy 61 = .ok (.i2l, 1) := by decide +kernel
theorem dX5_copy_62 : decode cX5_copy 62 = .ok (.iload 5, 2) := by decide +kernel
theorem dX5_copy_64 : decode cX5_copy 64 = .ok (.i2l, 1) := by decide +kernel
theorem dX5_copy_65 : decode cX5_copy 65 = .ok (.ladd, 1) := by decide +kernel
theorem dX5_copy_66 : decode cX5_copy 66 = .ok (.aload_n 0, 1) := by decide +kernel
theorem dX5_copy_67 : decode cX5_copy 67 = .ok (.getfield 7, 3) := by decide +kernel
theorem dX5_copy_70 : decode cX5_copy 70 = .ok (.iload_n 1, 1) := by decide +kernel
theorem dX5_copy_71 : decode cX5_copy 71 = .ok (.iaload, 1) := by decide +kernel
theorem dX5_copy_72 : decode cX5_copy 72 = .ok (.i2l, 1) := by decide +kernel
theorem dX5_copy_73 : decode cX5_copy 73 = .ok (.lcmp, 1) := by decide +kernel
theorem dX5_copy_74 : decode cX5_copy 74 = .ok (.ifCond .gt 21, 3) := by decide +kernel
theorem dX5_copy_77 : decode cX5_copy 77 = .ok (.iload 4, 2) := by decide +kernel
theorem dX5_copy_79 : decode cX5_copy 79 = .ok (.i2l, 1) := by decide +kernel
theorem dX5_copy_80 : decode cX5_copy 80 = .ok (.iload 5, 2) := by decide +kernel
theorem dX5_copy_82 : decode cX5_copy 82 = .ok (.i2l, 1) := by decide +kernel
theorem dX5_copy_83 : decode cX5_copy 83 = .ok (.ladd, 1) := by decide +kernel
theorem dX5_copy_84 : decode cX5_copy 84 = .ok (.aload_n 0, 1) := by decide +kernel
theorem dX5_copy_85 : decode cX5_copy 85 = .ok (.getfield 7, 3) := by decide +kernel
theorem dX5_copy_88 : decode cX5_copy 88 = .ok (.iload_n 3, 1) := by decide +kernel
theorem dX5_copy_89 : decode cX5_copy 89 = .ok (.iaload, 1) := by decide +kernel
theorem dX5_copy_90 : decode cX5_copy 90 = .ok (.i2l, 1) := by decide +kernel
theorem dX5_copy_91 : decode cX5_copy 91 = .ok (.lcmp, 1) := by decide +kernel
theorem dX5_copy_92 : decode cX5_copy 92 = .ok (.ifCond .le 9, 3) := by decide +kernel
theorem dX5_copy_95 : decode cX5_copy 95 = .ok (.aload_n 0, 1) := by decide +kernel
theorem dX5_copy_96 : decode cX5_copy 96 = .ok (.iconst 2, 1) := by decide +kernel
theorem dX5_copy_97 : decode cX5_copy 97 = .ok (.invokevirtual 81, 3) := by decide +kernel
theorem dX5_copy_100 : decode cX5_copy 100 = .ok (.ireturn, 1) := by decide +kernel
theorem dX5_copy_101 : decode cX5_copy 101 = .ok (.iconst 0, 1) := by decide +kernel
theorem dX5_copy_102 : decode cX5_copy 102 = .ok (.istore 6, 2) := by decide +kernel
theorem dX5_copy_104 : decode cX5_copy 104 = .ok (.iload 6, 2) := by decide +kernel
theorem dX5_copy_106 : decode cX5_copy 106 = .ok (.iload 5, 2) := by decide +kernel
theorem dX5_copy_108 : decode cX5_copy 108 = .ok (.if_icmp .ge 30, 3) := by decide +kernel
theorem dX5_copy_111 : decode cX5_copy 111 = .ok (.aload_n 0, 1) := by decide +kernel
theorem dX5_copy_112 : decode cX5_copy 112 = .ok (.getfield 16, 3) := by decide +kernel
theorem dX5_copy_115 : decode cX5_copy 115 = .ok (.iload 6, 2) := by decide +kernel
theorem dX5_copy_117 : decode cX5_copy 117 = .ok (.aload_n 0, 1) := by decide +kernel
theorem dX5_copy_118 : decode cX5_copy 118 = .ok (.getfield 13, 3) := by decide +kernel
theorem dX5_copy_121 : decode cX5_copy 121 = .ok (.bipush 40, 2) := by decide +kernel
theorem dX5_copy_123 : decode cX5_copy 123 = .ok (.iload_n 1, 1) := by decide +kernel
theorem dX5_copy_124 : decode cX5_copy 124 = .ok (.imul, 1) := by decide +kernel
theorem dX5_copy_125 : decode cX5_copy 125 = .ok (.iload_n 2, 1) := by decide +kernel
theorem dX5_copy_126 : decode cX5_copy 126 = .ok (.iadd, 1) := by decide +kernel
theorem dX5_copy_127 : decode cX5_copy 127 = .ok (.iload 6, 2) := by decide +kernel
theorem dX5_copy_129 : decode cX5_copy 129 = .ok (.iadd, 1) := by decide +kernel
theorem dX5_copy_130 : decode cX5_copy 130 = .ok (.iaload, 1) := by decide +kernel
theorem dX5_copy_131 : decode cX5_copy 131 = .ok (.iastore, 1) := by decide +kernel
theorem dX5_copy_132 : decode cX5_copy 132 = .ok (.iinc 6 1, 3) := by decide +kernel
theorem dX5_copy_135 : decode cX5_copy 135 = .ok (.goto (-31), 3) := by decide +kernel
theorem dX5_copy_138 : decode cX5_copy 138 = .ok (.iconst 0, 1) := by decide +kernel
theorem dX5_copy_139 : decode cX5_copy 139 = .ok (.istore 6, 2) := by decide +kernel
theorem dX5_copy_141 : decode cX5_copy 141 = .ok (.iload 6, 2) := by decide +kernel
theorem dX5_copy_143 : decode cX5_copy 143 = .ok (.iload 5, 2) := by decide +kernel
theorem dX5_copy_145 : decode cX5_copy 145 = .ok (.if_icmp .ge 31, 3) := by decide +kernel
theorem dX5_copy_148 : decode cX5_copy 148 = .ok (.aload_n 0, 1) := by decide +kernel
theorem dX5_copy_149 : decode cX5_copy 149 = .ok (.getfield 13, 3) := by decide +kernel
theorem dX5_copy_152 : decode cX5_copy 152 = .ok (.bipush 40, 2) := by decide +kernel
theorem dX5_copy_154 : decode cX5_copy 154 = .ok (.iload_n 3, 1) := by decide +kernel
theorem dX5_copy_155 : decode cX5_copy 155 = .ok (.imul, 1) := by decide +kernel
theorem dX5_copy_156 : decode cX5_copy 156 = .ok (.iload 4, 2) := by decide +kernel
theorem dX5_copy_158 : decode cX5_copy 158 = .ok (.iadd, 1) := by decide +kernel
theorem dX5_copy_159 : decode cX5_copy 159 = .ok (.iload 6, 2) := by decide +kernel
theorem dX5_copy_161 : decode cX5_copy 161 = .ok (.iadd, 1) := by decide +kernel
theorem dX5_copy_162 : decode cX5_copy 162 = .ok (.aload_n 0, 1) := by decide +kernel
theorem dX5_copy_163 : decode cX5_copy 163 = .ok (.getfield 16, 3) := by decide +kernel
theorem dX5_copy_166 : decode cX5_copy 166 = .ok (.iload 6, 2) := by decide +kernel
theorem dX5_copy_168 : decode cX5_copy 168 = .ok (.iaload, 1) := by decide +kernel
theorem dX5_copy_169 : decode cX5_copy 169 = .ok (.iastore, 1) := by decide +kernel
theorem dX5_copy_170 : decode cX5_copy 170 = .ok (.iinc 6 1, 3) := by decide +kernel
theorem dX5_copy_173 : decode cX5_copy 173 = .ok (.goto (-32), 3) := by decide +kernel
theorem dX5_copy_176 : decode cX5_copy 176 = .ok (.iconst 1, 1) := by decide +kernel
theorem dX5_copy_177 : decode cX5_copy 177 = .ok (.ireturn, 1) := by decide +kernel
theorem dX5_mean_0 : decode cX5_mean 0 = .ok (.iload_n 1, 1) := by decide +kernel
theorem dX5_mean_1 : decode cX5_mean 1 = .ok (.invokestatic 77, 3) := by decide +kernel
theorem dX5_mean_4 : decode cX5_mean 4 = .ok (.ifCond .ne 5, 3) := by decide +kernel
theorem dX5_mean_7 : decode cX5_mean 7 = .ok (.iconst (-1), 1) := by decide +kernel
theorem dX5_mean_8 : decode cX5_mean 8 = .ok (.ireturn, 1) := by decide +kernel
theorem dX5_mean_9 : decode cX5_mean 9 = .ok (.aload_n 0, 1) := by decide +kernel
theorem dX5_mean_10 : decode cX5_mean 10 = .ok (.getfield 7, 3) := by decide +kernel
theorem dX5_mean_13 : decode cX5_mean 13 = .ok (.iload_n 1, 1) := by decide +kernel
theorem dX5_mean_14 : decode cX5_mean 14 = .ok (.iaload, 1) := by decide +kernel
theorem dX5_mean_15 : decode cX5_mean 15 = .ok (.ifCond .ge 9, 3) := by decide +kernel
theorem dX5_mean_18 : decode cX5_mean 18 = .ok (.aload_n 0, 1) := by decide +kernel
theorem dX5_mean_19 : decode cX5_mean 19 = .ok (.iconst 1, 1) := by decide +kernel
theorem dX5_mean_20 : decode cX5_mean 20 = .ok (.invokevirtual 81, 3) := by decide +kernel
theorem dX5_mean_23 : decode cX5_mean 23 = .ok (.ireturn, 1) := by decide +kernel
theorem dX5_mean_24 : decode cX5_mean 24 = .ok (.aload_n 0, 1) := by decide +kernel
theorem dX5_mean_25 : decode cX5_mean 25 = .ok (.getfield 7, 3) := by decide +kernel
theorem dX5_mean_28 : decode cX5_mean 28 = .ok (.iload_n 1, 1) := by decide +kernel
theorem dX5_mean_29 : decode cX5_mean 29 = .ok (.iaload, 1) := by decide +kernel
theorem dX5_mean_30 : decode cX5_mean 30 = .ok (.ifCond .ne 9, 3) := by decide +kernel
theorem dX5_mean_33 : decode cX5_mean 33 = .ok (.aload_n 0, 1) := by decide +kernel
theorem dX5_mean_34 : decode cX5_mean 34 = .ok (.iconst 4, 1) := by decide +kernel
theorem dX5_mean_35 : decode cX5_mean 35 = .ok (.invokevirtual 81, 3) := by decide +kernel
theorem dX5_mean_38 : decode cX5_mean 38 = .ok (.ireturn, 1) := by decide +kernel
theorem dX5_mean_39 : decode cX5_mean 39 = .ok (.lconst 0, 1) := by decide +kernel
theorem dX5_mean_40 : decode cX5_mean 40 = .ok (.lstore_n 2, 1) := by decide +kernel
theorem dX5_mean_41 : decode cX5_mean 41 = .ok (.iconst 0, 1) := by decide +kernel
theorem dX5_mean_42 : decode cX5_mean 42 = .ok (.istore 4, 2) := by decide +kernel
theorem dX5_mean_44 : decode cX5_mean 44 = .ok (.iload 4, 2) := by decide +kernel
theorem dX5_mean_46 : decode cX5_mean 46 = .ok (.aload_n 0, 1) := by decide +kernel
theorem dX5_mean_47 : decode cX5_mean 47 = .ok (.getfield 7, 3) := by decide +kernel
theorem dX5_mean_50 : decode cX5_mean 50 = .ok (.iload_n 1, 1) := by decide +kernel
theorem dX5_mean_51 : decode cX5_mean 51 = .ok (.iaload, 1) := by decide +kernel
theorem dX5_mean_52 : decode cX5_mean 52 = .ok (.if_icmp .ge 25, 3) := by decide +kernel
theorem dX5_mean_55 : decode cX5_mean 55 = .ok (.lload_n 2, 1) := by decide +kernel
theorem dX5_mean_56 : decode cX5_mean 56 = .ok (.aload_n 0, 1) := by decide +kernel
theorem dX5_mean_57 : decode cX5_mean 57 = .ok (.getfield 13, 3) := by decide +kernel
theorem dX5_mean_60 : decode cX5_mean 60 = .ok (.bipush 40, 2) := by decide +kernel
theorem dX5_mean_62 : decode cX5_mean 62 = .ok (.iload_n 1, 1) := by decide +kernel
theorem dX5_mean_63 : decode cX5_mean 63 = .ok (.imul, 1) := by decide +kernel
theorem dX5_mean_64 : decode cX5_mean 64 = .ok (.iload 4, 2) := by decide +kernel
theorem dX5_mean_66 : decode cX5_mean 66 = .ok (.iadd, 1) := by decide +kernel
theorem dX5_mean_67 : decode cX5_mean 67 = .ok (.iaload, 1) := by decide +kernel
theorem dX5_mean_68 : decode cX5_mean 68 = .ok (.i2l, 1) := by decide +kernel
theorem dX5_mean_69 : decode cX5_mean 69 = .ok (.ladd, 1) := by decide +kernel
theorem dX5_mean_70 : decode cX5_mean 70 = .ok (.lstore_n 2, 1) := by decide +kernel
theorem dX5_mean_71 : decode cX5_mean 71 = .ok (.iinc 4 1, 3) := by decide +kernel
theorem dX5_mean_74 : decode cX5_mean 74 = .ok (.goto (-30), 3) := by decide +kernel
theorem dX5_mean_77 : decode cX5_mean 77 = .ok (.aload_n 0, 1) := by decide +kernel
theorem dX5_mean_78 : decode cX5_mean 78 = .ok (.iconst 1, 1) := by decide +kernel
theorem dX5_mean_79 : decode cX5_mean 79 = .ok (.lload_n 2, 1) := by decide +kernel
theorem dX5_mean_80 : decode cX5_mean 80 = .ok (.aload_n 0, 1) := by decide +kernel
theorem dX5_mean_81 : decode cX5_mean 81 = .ok (.getfield 7, 3) := by decide +kernel
theorem dX5_mean_84 : decode cX5_mean 84 = .ok (.iload_n 1, 1) := by decide +kernel
theorem dX5_mean_85 : decode cX5_mean 85 = .ok (.iaload, 1) := by decide +kernel
theorem dX5_mean_86 : decode cX5_mean 86 = .ok (.i2l, 1) := by decide +kernel
theorem dX5_mean_87 : decode cX5_mean 87 = .ok (.ldiv, 1) := by decide +kernel
theorem dX5_mean_88 : decode cX5_mean 88 = .ok (.l2i, 1) := by decide +kernel
theorem dX5_mean_89 : decode cX5_mean 89 = .ok (.invokevirtual 93, 3) := by decide +kernel
theorem dX5_mean_92 : decode cX5_mean 92 = .ok (.ireturn, 1) := by decide +kernel
theorem dX5_text_0 : decode cX5_text 0 = .ok (.iload_n 1, 1) := by decide +kernel
theorem dX5_text_1 : decode cX5_text 1 = .ok (.invokestatic 96, 3) := by decide +kernel
theorem dX5_text_4 : decode cX5_text 4 = .ok (.ifCond .eq 9, 3) := by decide +kernel
theorem dX5_text_7 : decode cX5_text 7 = .ok (.iload_n 2, 1) := by decide +kernel
theorem dX5_text_8 : decode cX5_text 8 = .ok (.bipush 60, 2) := by decide +kernel
theorem dX5_text_10 : decode cX5_text 10 = .ok (.if_icmp .le 5, 3) := by decide +kernel
theorem dX5_text_13 : decode cX5_text 13 = .ok (.iconst (-1), 1) := by decide +kernel
theorem dX5_text_14 : decode cX5_text 14 = .ok (.ireturn, 1) := by decide +kernel
theorem dX5_text_15 : decode cX5_text 15 = .ok (.iload_n 2, 1) := by decide +kernel
theorem dX5_text_16 : decode cX5_text 16 = .ok (.ifCond .ge 9, 3) := by decide +kernel
theorem dX5_text_19 : decode cX5_text 19 = .ok (.aload_n 0, 1) := by decide +kernel
theorem dX5_text_20 : decode cX5_text 20 = .ok (.iconst 5, 1) := by decide +kernel
theorem dX5_text_21 : decode cX5_text 21 = .ok (.invokevirtual 81, 3) := by decide +kernel
theorem dX5_text_24 : decode cX5_text 24 = .ok (.ireturn, 1) := by decide +kernel
theorem dX5_text_25 : decode cX5_text 25 = .ok (.aload_n 0, 1) := by decide +kernel
theorem dX5_text_26 : decode cX5_text 26 = .ok (.getfield 19, 3) := by decide +kernel
theorem dX5_text_29 : decode cX5_text 29 = .ok (.iload_n 1, 1) := by decide +kernel
theorem dX5_text_30 : decode cX5_text 30 = .ok (.iload_n 2, 1) := by decide +kernel
theorem dX5_text_31 : decode cX5_text 31 = .ok (.iastore, 1) := by decide +kernel
theorem dX5_text_32 : decode cX5_text 32 = .ok (.iconst 0, 1) := by decide +kernel
theorem dX5_text_33 : decode cX5_text 33 = .ok (.istore_n 3, 1) := by decide +kernel
theorem dX5_text_34 : decode cX5_text 34 = .ok (.iload_n 3, 1) := by decide +kernel
theorem dX5_text_35 : decode cX5_text 35 = .ok (.bipush 60, 2) := by decide +kernel
theorem dX5_text_37 : decode cX5_text 37 = .ok (.if_icmp .ge 22, 3) := by decide +kernel
theorem dX5_text_40 : decode cX5_text 40 = .ok (.aload_n 0, 1) := by decide +kernel
theorem dX5_text_41 : decode cX5_text 41 = .ok (.getfield 22, 3) := by decide +kernel
theorem dX5_text_44 : decode cX5_text 44 = .ok (.bipush 60, 2) := by decide +kernel
theorem dX5_text_46 : decode cX5_text 46 = .ok (.iload_n 1, 1) := by decide +kernel
theorem dX5_text_47 : decode cX5_text 47 = .ok (.imul, 1) := by decide +kernel
theorem dX5_text_48 : decode cX5_text 48 = .ok (.iload_n 3, 1) := by decide +kernel
theorem dX5_text_49 : decode cX5_text 49 = .ok (.iadd, 1) := by decide +kernel
theorem dX5_text_50 : decode cX5_text 50 = .ok (.bipush 32, 2) := by decide +kernel
theorem dX5_text_52 : decode cX5_text 52 = .ok (.iastore, 1) := by decide +kernel
theorem dX5_text_53 : decode cX5_text 53 = .ok (.iinc 3 1, 3) := by decide +kernel
theorem dX5_text_56 : decode cX5_text 56 = .ok (.goto (-22), 3) := by decide +kernel
theorem dX5_text_59 : decode cX5_text 59 = .ok (.iload_n 2, 1) := by decide +kernel
theorem dX5_text_60 : decode cX5_text 60 = .ok (.ireturn, 1) := by decide +kernel
theorem dX5_put_0 : decode cX5_put 0 = .ok (.iload_n 1, 1) := by decide +kernel
theorem dX5_put_1 : decode cX5_put 1 = .ok (.invokestatic 96, 3) := by decide +kernel
theorem dX5_put_4 : decode cX5_put 4 = .ok (.ifCond .ne 5, 3) := by decide +kernel
theorem dX5_put_7 : decode cX5_put 7 = .ok (.iconst (-1), 1) := by decide +kernel
theorem dX5_put_8 : decode cX5_put 8 = .ok (.ireturn, 1) := by decide +kernel
theorem dX5_put_9 : decode cX5_put 9 = .ok (.aload_n 0, 1) := by decide +kernel
theorem dX5_put_10 : decode cX5_put 10 = .ok (.getfield 19, 3) := by decide +kernel
theorem dX5_put_13 : decode cX5_put 13 = .ok (.iload_n 1, 1) := by decide +kernel
theorem dX5_put_14 : decode cX5_put 14 = .ok (.iaload, 1) := by decide +kernel
theorem dX5_put_15 : decode cX5_put 15 = .ok (.ifCond .ge 9, 3) := by decide +kernel
theorem dX5_put_18 : decode cX5_put 18 = .ok (.aload_n 0, 1) := by decide +kernel
theorem dX5_put_19 : decode cX5_put 19 = .ok (.iconst 1, 1) := by decide +kernel
theorem dX5_put_20 : decode cX5_put 20 = .ok (.invokevirtual 81, 3) := by decide +kernel
theorem dX5_put_23 : decode cX5_put 23 = .ok (.ireturn, 1) := by decide +kernel
theorem dX5_put_24 : decode cX5_put 24 = .ok (.iload_n 2, 1) := by decide +kernel
theorem dX5_put_25 : decode cX5_put 25 = .ok (.iconst 0, 1) := by decide +kernel
theorem dX5_put_26 : decode cX5_put 26 = .ok (.aload_n 0, 1) := by decide +kernel
theorem dX5_put_27 : decode cX5_put 27 = .ok (.getfield 19, 3) := by decide +kernel
theorem dX5_put_30 : decode cX5_put 30 = .ok (.iload_n 1, 1) := by decide +kernel
theorem dX5_put_31 : decode cX5_put 31 = .ok (.iaload, 1) := by decide +kernel
theorem dX5_put_32 : decode cX5_put 32 = .ok (.iconst 1, 1) := by decide +kernel
theorem dX5_put_33 : decode cX5_put 33 = .ok (.isub, 1) := by decide +kernel
theorem dX5_put_34 : decode cX5_put 34 = .ok (.invokestatic 73, 3) := by decide +kernel
theorem dX5_put_37 : decode cX5_put 37 = .ok (.ifCond .ne 9, 3) := by decide +kernel
theorem dX5_put_40 : decode cX5_put 40 = .ok (.aload_n 0, 1) := by decide +kernel
theorem dX5_put_41 : decode cX5_put 41 = .ok (.iconst 2, 1) := by decide +kernel
theorem dX5_put_42 : decode cX5_put 42 = .ok (.invokevirtual 81, 3) := by decide +kernel
theorem dX5_put_45 : decode cX5_put 45 = .ok (.ireturn, 1) := by decide +kernel
theorem dX5_put_46 : decode cX5_put 46 = .ok (.aload_n 0, 1) := by decide +kernel
theorem dX5_put_47 : decode cX5_put 47 = .ok (.getfield 22, 3) := by decide +kernel
theorem dX5_put_50 : decode cX5_put 50 = .ok (.bipush 60, 2) := by decide +kernel
theorem dX5_put_52 : decode cX5_put 52 = .ok (.iload_n 1, 1) := by decide +kernel
theorem dX5_put_53 : decode cX5_put 53 = .ok (.imul, 1) := by decide +kernel
theorem dX5_put_54 : decode cX5_put 54 = .ok (.iload_n 2, 1) := by decide +kernel
theorem dX5_put_55 : decode cX5_put 55 = .ok (.iadd, 1) := by decide +kernel
theorem dX5_put_56 : decode cX5_put 56 = .ok (.iaload, 1) := by decide +kernel
theorem dX5_put_57 : decode cX5_put 57 = .ok (.istore 4, 2) := by decide +kernel
theorem dX5_put_59 : decode cX5_put 59 = .ok (.aload_n 0, 1) := by decide +kernel
theorem dX5_put_60 : decode cX5_put 60 = .ok (.getfield 22, 3) := by decide +kernel
theorem dX5_put_63 : decode cX5_put 63 = .ok (.bipush 60, 2) := by decide +kernel
theorem dX5_put_65 : decode cX5_put 65 = .ok (.iload_n 1, 1) := by decide +kernel
theorem dX5_put_66 : decode cX5_put 66 = .ok (.imul, 1) := by decide +kernel
theorem dX5_put_67 : decode cX5_put 67 = .ok (.iload_n 2, 1) := by decide +kernel
theorem dX5_put_68 : decode cX5_put 68 = .ok (.iadd, 1) := by decide +kernel
theorem dX5_put_69 : decode cX5_put 69 = .ok (.iload_n 3, 1) := by decide +kernel
theorem dX5_put_70 : decode cX5_put 70 = .ok (.i2b, 1) := by decide +kernel
theorem dX5_put_71 : decode cX5_put 71 = .ok (.iastore, 1) := by decide +kernel
theorem dX5_put_72 : decode cX5_put 72 = .ok (.iload 4, 2) := by decide +kernel
theorem dX5_put_74 : decode cX5_put 74 = .ok (.sipush 1000, 3) := by decide +kernel
theorem dX5_put_77 : decode cX5_put 77 = .ok (.iadd, 1) := by decide +kernel
theorem dX5_put_78 : decode cX5_put 78 = .ok (.ireturn, 1) := by decide +kernel
theorem dX5_look_0 : decode cX5_look 0 = .ok (.aload_n 0, 1) := by decide +kernel
theorem dX5_look_1 : decode cX5_look 1 = .ok (.getfield 99, 3) := by decide +kernel
theorem dX5_look_4 : decode cX5_look 4 = .ok (.aload_n 0, 1) := by decide +kernel
theorem dX5_look_5 : decode cX5_look 5 = .ok (.getfield 19, 3) := by decide +kernel
theorem dX5_look_8 : decode cX5_look 8 = .ok (.iload_n 1, 1) := by decide +kernel
theorem dX5_look_9 : decode cX5_look 9 = .ok (.iaload, 1) := by decide +kernel
theorem dX5_look_10 : decode cX5_look 10 = .ok (.if_icmp .ge 20, 3) := by decide +kernel
theorem dX5_look_13 : decode cX5_look 13 = .ok (.aload_n 0, 1) := by decide +kernel
theorem dX5_look_14 : decode cX5_look 14 = .ok (.getfield 22, 3) := by decide +kernel
theorem dX5_look_17 : decode cX5_look 17 = .ok (.bipush 60, 2) := by decide +kernel
theorem dX5_look_19 : decode cX5_look 19 = .ok (.iload_n 1, 1) := by decide +kernel
theorem dX5_look_20 : decode cX5_look 20 = .ok (.imul, 1) := by decide +kernel
theorem dX5_look_21 : decode cX5_look 21 = .ok (.aload_n 0, 1) := by decide +kernel
theorem dX5_look_22 : decode cX5_look 22 = .ok (.getfield 99, 3) := by decide +kernel
theorem dX5_look_25 : decode cX5_look 25 = .ok (.iadd, 1) := by decide +kernel
theorem dX5_look_26 : decode cX5_look 26 = .ok (.iaload, 1) := by decide +kernel
theorem dX5_look_27 : decode cX5_look 27 = .ok (.goto 6, 3) := by decide +kernel
theorem dX5_look_30 : decode cX5_look 30 = .ok (.sipush (-1000), 3) := by decide +kernel
theorem dX5_look_33 : decode cX5_look 33 = .ok (.ireturn, 1) := by decide +kernel
theorem dX5_skips_0 : decode cX5_skips 0 = .ok (.aload_n 0, 1) := by decide +kernel
theorem dX5_skips_1 : decode cX5_skips 1 = .ok (.getfield 102, 3) := by decide +kernel
theorem dX5_skips_4 : decode cX5_skips 4 = .ok (.ifCond .eq 26, 3) := by decide +kernel
theorem dX5_skips_7 : decode cX5_skips 7 = .ok (.aload_n 0, 1) := by decide +kernel
theorem dX5_skips_8 : decode cX5_skips 8 = .ok (.iload_n 1, 1) := by decide +kernel
theorem dX5_skips_9 : decode cX5_skips 9 = .ok (.invokevirtual 106, 3) := by decide +kernel
theorem dX5_skips_12 : decode cX5_skips 12 = .ok (.bipush 32, 2) := by decide +kernel
theorem dX5_skips_14 : decode cX5_skips 14 = .ok (.if_icmp .ne 16, 3) := by decide +kernel
theorem dX5_skips_17 : decode cX5_skips 17 = .ok (.aload_n 0, 1) := by decide +kernel
theorem dX5_skips_18 : decode cX5_skips 18 = .ok (.dup, 1) := by decide +kernel
theorem dX5_skips_19 : decode cX5_skips 19 = .ok (.getfield 99, 3) := by decide +kernel
theorem dX5_skips_22 : decode cX5_skips 22 = .ok (.iconst 1, 1) := by decide +kernel
theorem dX5_skips_23 : decode cX5_skips 23 = .ok (.iadd, 1) := by decide +kernel
theorem dX5_skips_24 : decode cX5_skips 24 = .ok (.putfield 99, 3) := by decide +kernel
theorem dX5_skips_27 : decode cX5_skips 27 = .ok (.goto (-27), 3) := by decide +kernel
theorem dX5_skips_30 : decode cX5_skips 30 = .ok (.return_, 1) := by decide +kernel
theorem dX5_figure_0 : decode cX5_figure 0 = .ok (.aload_n 0, 1) := by decide +kernel
theorem dX5_figure_1 : decode cX5_figure 1 = .ok (.iload_n 1, 1) := by decide +kernel
theorem dX5_figure_2 : decode cX5_figure 2 = .ok (.invokevirtual 106, 3) := by decide +kernel
theorem dX5_figure_5 : decode cX5_figure 5 = .ok (.bipush 48, 2) := by decide +kernel
theorem dX5_figure_7 : decode cX5_figure 7 = .ok (.isub, 1) := by decide +kernel
theorem dX5_figure_8 : decode cX5_figure 8 = .ok (.istore 4, 2) := by decide +kernel
theorem dX5_figure_10 : decode cX5_figure 10 = .ok (.aload_n 0, 1) := by decide +kernel
theorem dX5_figure_11 : decode cX5_figure 11 = .ok (.aload_n 0, 1) := by decide +kernel
theorem dX5_figure_12 : decode cX5_figure 12 = .ok (.getfield 102, 3) := by decide +kernel
theorem dX5_figure_15 : decode cX5_figure 15 = .ok (.ifCond .eq 32, 3) := by decide +kernel
theorem dX5_figure_18 : decode cX5_figure 18 = .ok (.aload_n 0, 1) := by decide +kernel
theorem dX5_figure_19 : decode cX5_figure 19 = .ok (.iload_n 1, 1) := by decide +kernel
theorem dX5_figure_20 : decode cX5_figure 20 = .ok (.invokevirtual 106, 3) := by decide +kernel
theorem dX5_figure_23 : decode cX5_figure 23 = .ok (.bipush 48, 2) := by decide +kernel
theorem dX5_figure_25 : decode cX5_figure 25 = .ok (.bipush 57, 2) := by decide +kernel
theorem dX5_figure_27 : decode cX5_figure 27 = .ok (.invokestatic 73, 3) := by decide +kernel
theorem dX5_figure_30 : decode cX5_figure 30 = .ok (.ifCond .eq 17, 3) := by decide +kernel
theorem dX5_figure_33 : decode cX5_figure 33 = .ok (.iload 4, 2) := by decide +kernel
theorem dX5_figure_35 : decode cX5_figure 35 = .ok (.iload_n 2, 1) := by decide +kernel
theorem dX5_figure_36 : decode cX5_figure 36 = .ok (.iload_n 3, 1) := by decide +kernel
theorem dX5_figure_37 : decode cX5_figure 37 = .ok (.invokestatic 73, 3) := by decide +kernel
theorem dX5_figure_40 : decode cX5_figure 40 = .ok (.ifCond .eq 7, 3) := by decide +kernel
theorem dX5_figure_43 : decode cX5_figure 43 = .ok (.iconst 1, 1) := by decide +kernel
theorem dX5_figure_44 : decode cX5_figure 44 = .ok (.goto 4, 3) := by decide +kernel
theorem dX5_figure_47 : decode cX5_figure 47 = .ok (.iconst 0, 1) := by decide +kernel
theorem dX5_figure_48 : decode cX5_figure 48 = .ok (.putfield 102, 3) := by decide +kernel
theorem dX5_figure_51 : decode cX5_figure 51 = .ok (.aload_n 0, 1) := by decide +kernel
theorem dX5_figure_52 : decode cX5_figure 52 = .ok (.dup, 1) := by decide +kernel
theorem dX5_figure_53 : decode cX5_figure 53 = .ok (.getfield 99, 3) := by decide +kernel
theorem dX5_figure_56 : decode cX5_figure 56 = .ok (.aload_n 0, 1) := by decide +kernel
theorem dX5_figure_57 : decode cX5_figure 57 = .ok (.getfield 102, 3) := by decide +kernel
theorem dX5_figure_60 : decode cX5_figure 60 = .ok (.ifCond .eq 7, 3) := by decide +kernel
theorem dX5_figure_63 : decode cX5_figure 63 = .ok (.iconst 1, 1) := by decide +kernel
theorem dX5_figure_64 : decode cX5_figure 64 = .ok (.goto 4, 3) := by decide +kernel
theorem dX5_figure_67 : decode cX5_figure 67 = .ok (.iconst 0, 1) := by decide +kernel
theorem dX5_figure_68 : decode cX5_figure 68 = .ok (.iadd, 1) := by decide +kernel
theorem dX5_figure_69 : decode cX5_figure 69 = .ok (.putfield 99, 3) := by decide +kernel
theorem dX5_figure_72 : decode cX5_figure 72 = .ok (.iload 4, 2) := by decide +kernel
theorem dX5_figure_74 : decode cX5_figure 74 = .ok (.ireturn, 1) := by decide +kernel
theorem dX5_kindOf_0 : decode cX5_kindOf 0 = .ok (.iload_n 0, 1) := by decide +kernel
theorem dX5_kindOf_1 : decode cX5_kindOf 1 = .ok (.bipush 112, 2) := by decide +kernel
theorem dX5_kindOf_3 : decode cX5_kindOf 3 = .ok (.if_icmp .ne 7, 3) := by decide +kernel
theorem dX5_kindOf_6 : decode cX5_kindOf 6 = .ok (.iconst 0, 1) := by decide +kernel
theorem dX5_kindOf_7 : decode cX5_kindOf 7 = .ok (.goto 55, 3) := by decide +kernel
theorem dX5_kindOf_10 : decode cX5_kindOf 10 = .ok (.iload_n 0, 1) := by decide +kernel
theorem dX5_kindOf_11 : decode cX5_kindOf 11 = .ok (.bipush 111, 2) := by decide +kernel
theorem dX5_kindOf_13 : decode cX5_kindOf 13 = .ok (.if_icmp .ne 7, 3) := by decide +kernel
theorem dX5_kindOf_16 : decode cX5_kindOf 16 = .ok (.iconst 1, 1) := by decide +kernel
theorem dX5_kindOf_17 : decode cX5_kindOf 17 = .ok (.goto 45, 3) := by decide +kernel
theorem dX5_kindOf_20 : decode cX5_kindOf 20 = .ok (.iload_n 0, 1) := by decide +kernel
theorem dX5_kindOf_21 : decode cX5_kindOf 21 = .ok (.bipush 108, 2) := by decide +kernel
theorem dX5_kindOf_23 : decode cX5_kindOf 23 = .ok (.if_icmp .ne 7, 3) := by decide +kernel
theorem dX5_kindOf_26 : decode cX5_kindOf 26 = .ok (.iconst 2, 1) := by decide +kernel
theorem dX5_kindOf_27 : decode cX5_kindOf 27 = .ok (.goto 35, 3) := by decide +kernel
theorem dX5_kindOf_30 : decode cX5_kindOf 30 = .ok (.iload_n 0, 1) := by decide +kernel
theorem dX5_kindOf_31 : decode cX5_kindOf 31 = .ok (.bipush 104, 2) := by decide +kernel
theorem dX5_kindOf_33 : decode cX5_kindOf 33 = .ok (.if_icmp .ne 7, 3) := by decide +kernel
theorem dX5_kindOf_36 : decode cX5_kindOf 36 = .ok (.iconst 3, 1) := by decide +kernel
theorem dX5_kindOf_37 : decode cX5_kindOf 37 = .ok (.goto 25, 3) := by decide +kernel
theorem dX5_kindOf_40 : decode cX5_kindOf 40 = .ok (.iload_n 0, 1) := by decide +kernel
theorem dX5_kindOf_41 : decode cX5_kindOf 41 = .ok (.bipush 116, 2) := by decide +kernel
theorem dX5_kindOf_43 : decode cX5_kindOf 43 = .ok (.if_icmp .ne 7, 3) := by decide +kernel
theorem dX5_kindOf_46 : decode cX5_kindOf 46 = .ok (.iconst 4, 1) := by decide +kernel
theorem dX5_kindOf_47 : decode cX5_kindOf 47 = .ok (.goto 15, 3) := by decide +kernel
theorem dX5_kindOf_50 : decode cX5_kindOf 50 = .ok (.iload_n 0, 1) := by decide +kernel
theorem dX5_kindOf_51 : decode cX5_kindOf 51 = .ok (.bipush 102, 2) := by decide +kernel
theorem dX5_kindOf_53 : decode cX5_kindOf 53 = .ok (.if_icmp .ne 7, 3) := by decide +kernel
theorem dX5_kindOf_56 : decode cX5_kindOf 56 = .ok (.iconst 5, 1) := by decide +kernel
theorem dX5_kindOf_57 : decode cX5_kindOf 57 = .ok (.goto 5, 3) := by decide +kernel
theorem dX5_kindOf_60 : decode cX5_kindOf 60 = .ok (.bipush (-9), 2) := by decide +kernel
theorem dX5_kindOf_62 : decode cX5_kindOf 62 = .ok (.ireturn, 1) := by decide +kernel
theorem dX5_readsHead_0 : decode cX5_readsHead 0 = .ok (.aload_n 0, 1) := by decide +kernel
theorem dX5_readsHead_1 : decode cX5_readsHead 1 = .ok (.iload_n 1, 1) := by decide +kernel
theorem dX5_readsHead_2 : decode cX5_readsHead 2 = .ok (.invokevirtual 109, 3) := by decide +kernel
theorem dX5_readsHead_5 : decode cX5_readsHead 5 = .ok (.aload_n 0, 1) := by decide +kernel
theorem dX5_readsHead_6 : decode cX5_readsHead 6 = .ok (.aload_n 0, 1) := by decide +kernel
theorem dX5_readsHead_7 : decode cX5_readsHead 7 = .ok (.iload_n 1, 1) := by decide +kernel
theorem dX5_readsHead_8 : decode cX5_readsHead 8 = .ok (.invokevirtual 106, 3) := by decide +kernel
theorem dX5_readsHead_11 : decode cX5_readsHead 11 = .ok (.bipush 110, 2) := by decide +kernel
theorem dX5_readsHead_13 : decode cX5_readsHead 13 = .ok (.if_icmp .ne 7, 3) := by decide +kernel
theorem dX5_readsHead_16 : decode cX5_readsHead 16 = .ok (.iconst 1, 1) := by decide +kernel
theorem dX5_readsHead_17 : decode cX5_readsHead 17 = .ok (.goto 4, 3) := by decide +kernel
theorem dX5_readsHead_20 : decode cX5_readsHead 20 = .ok (.iconst 0, 1) := by decide +kernel
theorem dX5_readsHead_21 : decode cX5_readsHead 21 = .ok (.putfield 102, 3) := by decide +kernel
theorem dX5_readsHead_24 : decode cX5_readsHead 24 = .ok (.aload_n 0, 1) := by decide +kernel
theorem dX5_readsHead_25 : decode cX5_readsHead 25 = .ok (.dup, 1) := by decide +kernel
theorem dX5_readsHead_26 : decode cX5_readsHead 26 = .ok (.getfield 99, 3) := by decide +kernel
theorem dX5_readsHead_29 : decode cX5_readsHead 29 = .ok (.aload_n 0, 1) := by decide +kernel
theorem dX5_readsHead_30 : decode cX5_readsHead 30 = .ok (.getfield 102, 3) := by decide +kernel
theorem dX5_readsHead_33 : decode cX5_readsHead 33 = .ok (.ifCond .eq 7, 3) := by decide +kernel
theorem dX5_readsHead_36 : decode cX5_readsHead 36 = .ok (.iconst 1, 1) := by decide +kernel
theorem dX5_readsHead_37 : decode cX5_readsHead 37 = .ok (.goto 4, 3) := by decide +kernel
theorem dX5_readsHead_40 : decode cX5_readsHead 40 = .ok (.iconst 0, 1) := by decide +kernel
theorem dX5_readsHead_41 : decode cX5_readsHead 41 = .ok (.iadd, 1) := by decide +kernel
theorem dX5_readsHead_42 : decode cX5_readsHead 42 = .ok (.putfield 99, 3) := by decide +kernel
theorem dX5_readsHead_45 : decode cX5_readsHead 45 = .ok (.aload_n 0, 1) := by decide +kernel
theorem dX5_readsHead_46 : decode cX5_readsHead 46 = .ok (.getfield 28, 3) := by decide +kernel
theorem dX5_readsHead_49 : decode cX5_readsHead 49 = .ok (.iconst 0, 1) := by decide +kernel
theorem dX5_readsHead_50 : decode cX5_readsHead 50 = .ok (.aload_n 0, 1) := by decide +kernel
theorem dX5_readsHead_51 : decode cX5_readsHead 51 = .ok (.iload_n 1, 1) := by decide +kernel
theorem dX5_readsHead_52 : decode cX5_readsHead 52 = .ok (.iconst 3, 1) := by decide +kernel
theorem dX5_readsHead_53 : decode cX5_readsHead 53 = .ok (.bipush 9, 2) := by decide +kernel
theorem dX5_readsHead_55 : decode cX5_readsHead 55 = .ok (.invokevirtual 113, 3) := by decide +kernel
theorem dX5_readsHead_58 : decode cX5_readsHead 58 = .ok (.iastore, 1) := by decide +kernel
theorem dX5_readsHead_59 : decode cX5_readsHead 59 = .ok (.aload_n 0, 1) := by decide +kernel
theorem dX5_readsHead_60 : decode cX5_readsHead 60 = .ok (.getfield 28, 3) := by decide +kernel
theorem dX5_readsHead_63 : decode cX5_readsHead 63 = .ok (.iconst 1, 1) := by decide +kernel
theorem dX5_readsHead_64 : decode cX5_readsHead 64 = .ok (.aload_n 0, 1) := by decide +kernel
theorem dX5_readsHead_65 : decode cX5_readsHead 65 = .ok (.iload_n 1, 1) := by decide +kernel
theorem dX5_readsHead_66 : decode cX5_readsHead 66 = .ok (.iconst 0, 1) := by decide +kernel
theorem dX5_readsHead_67 : decode cX5_readsHead 67 = .ok (.aload_n 0, 1) := by decide +kernel
theorem dX5_readsHead_68 : decode cX5_readsHead 68 = .ok (.getfield 28, 3) := by decide +kernel
theorem dX5_readsHead_71 : decode cX5_readsHead 71 = .ok (.iconst 0, 1) := by decide +kernel
theorem dX5_readsHead_72 : decode cX5_readsHead 72 = .ok (.iaload, 1) := by decide +kernel
theorem dX5_readsHead_73 : decode cX5_readsHead 73 = .ok (.invokevirtual 113, 3) := by decide +kernel
theorem dX5_readsHead_76 : decode cX5_readsHead 76 = .ok (.iastore, 1) := by decide +kernel
theorem dX5_readsHead_77 : decode cX5_readsHead 77 = .ok (.aload_n 0, 1) := by decide +kernel
theorem dX5_readsHead_78 : decode cX5_readsHead 78 = .ok (.getfield 28, 3) := by decide +kernel
theorem dX5_readsHead_81 : decode cX5_readsHead 81 = .ok (.iconst 2, 1) := by decide +kernel
theorem dX5_readsHead_82 : decode cX5_readsHead 82 = .ok (.aload_n 0, 1) := by decide +kernel
theorem dX5_readsHead_83 : decode cX5_readsHead 83 = .ok (.iload_n 1, 1) := by decide +kernel
theorem dX5_readsHead_84 : decode cX5_readsHead 84 = .ok (.aload_n 0, 1) := by decide +kernel
theorem dX5_readsHead_85 : decode cX5_readsHead 85 = .ok (.getfield 28, 3) := by decide +kernel
theorem dX5_readsHead_88 : decode cX5_readsHead 88 = .ok (.iconst 1, 1) := by decide +kernel
theorem dX5_readsHead_89 : decode cX5_readsHead 89 = .ok (.iaload, 1) := by decide +kernel
theorem dX5_readsHead_90 : decode cX5_readsHead 90 = .ok (.aload_n 0, 1) := by decide +kernel
theorem dX5_readsHead_91 : decode cX5_readsHead 91 = .ok (.getfield 28, 3) := by decide +kernel
theorem dX5_readsHead_94 : decode cX5_readsHead 94 = .ok (.iconst 0, 1) := by decide +kernel
theorem dX5_readsHead_95 : decode cX5_readsHead 95 = .ok (.iaload, 1) := by decide +kernel
theorem dX5_readsHead_96 : decode cX5_readsHead 96 = .ok (.invokevirtual 113, 3) := by decide +kernel
theorem dX5_readsHead_99 : decode cX5_readsHead 99 = .ok (.iastore, 1) := by decide +kernel
theorem dX5_readsHead_100 : decode cX5_readsHead 100 = .ok (.aload_n 0, 1) := by decide +kernel
theorem dX5_readsHead_101 : decode cX5_readsHead 101 = .ok (.getfield 28, 3) := by decide +kernel
theorem dX5_readsHead_104 : decode cX5_readsHead 104 = .ok (.iconst 3, 1) := by decide +kernel
theorem dX5_readsHead_105 : decode cX5_readsHead 105 = .ok (.aload_n 0, 1) := by decide +kernel
theorem dX5_readsHead_106 : decode cX5_readsHead 106 = .ok (.iload_n 1, 1) := by decide +kernel
theorem dX5_readsHead_107 : decode cX5_readsHead 107 = .ok (.iconst 0, 1) := by decide +kernel
theorem dX5_readsHead_108 : decode cX5_readsHead 108 = .ok (.bipush 7, 2) := by decide +kernel
theorem dX5_readsHead_110 : decode cX5_readsHead 110 = .ok (.invokevirtual 113, 3) := by decide +kernel
theorem dX5_readsHead_113 : decode cX5_readsHead 113 = .ok (.iastore, 1) := by decide +kernel
theorem dX5_readsHead_114 : decode cX5_readsHead 114 = .ok (.aload_n 0, 1) := by decide +kernel
theorem dX5_readsHead_115 : decode cX5_readsHead 115 = .ok (.getfield 28, 3) := by decide +kernel
theorem dX5_readsHead_118 : decode cX5_readsHead 118 = .ok (.iconst 4, 1) := by decide +kernel
theorem dX5_readsHead_119 : decode cX5_readsHead 119 = .ok (.aload_n 0, 1) := by decide +kernel
theorem dX5_readsHead_120 : decode cX5_readsHead 120 = .ok (.iload_n 1, 1) := by decide +kernel
theorem dX5_readsHead_121 : decode cX5_readsHead 121 = .ok (.iconst 0, 1) := by decide +kernel
theorem dX5_readsHead_122 : decode cX5_readsHead 122 = .ok (.bipush 7, 2) := by decide +kernel
theorem dX5_readsHead_124 : decode cX5_readsHead 124 = .ok (.invokevirtual 113, 3) := by decide +kernel
theorem dX5_readsHead_127 : decode cX5_readsHead 127 = .ok (.iastore, 1) := by decide +kernel
theorem dX5_readsHead_128 : decode cX5_readsHead 128 = .ok (.aload_n 0, 1) := by decide +kernel
theorem dX5_readsHead_129 : decode cX5_readsHead 129 = .ok (.getfield 28, 3) := by decide +kernel
theorem dX5_readsHead_132 : decode cX5_readsHead 132 = .ok (.iconst 5, 1) := by decide +kernel
theorem dX5_readsHead_133 : decode cX5_readsHead 133 = .ok (.aload_n 0, 1) := by decide +kernel
theorem dX5_readsHead_134 : decode cX5_readsHead 134 = .ok (.getfield 28, 3) := by decide +kernel
theorem dX5_readsHead_137 : decode cX5_readsHead 137 = .ok (.iconst 1, 1) := by decide +kernel
theorem dX5_readsHead_138 : decode cX5_readsHead 138 = .ok (.iaload, 1) := by decide +kernel
theorem dX5_readsHead_139 : decode cX5_readsHead 139 = .ok (.iastore, 1) := by decide +kernel
theorem dX5_readsHead_140 : decode cX5_readsHead 140 = .ok (.aload_n 0, 1) := by decide +kernel
theorem dX5_readsHead_141 : decode cX5_readsHead 141 = .ok (.getfield 28, 3) := by decide +kernel
theorem dX5_readsHead_144 : decode cX5_readsHead 144 = .ok (.bipush 6, 2) := by decide +kernel
theorem dX5_readsHead_146 : decode cX5_readsHead 146 = .ok (.aload_n 0, 1) := by decide +kernel
theorem dX5_readsHead_147 : decode cX5_readsHead 147 = .ok (.getfield 28, 3) := by decide +kernel
theorem dX5_readsHead_150 : decode cX5_readsHead 150 = .ok (.iconst 2, 1) := by decide +kernel
theorem dX5_readsHead_151 : decode cX5_readsHead 151 = .ok (.iaload, 1) := by decide +kernel
theorem dX5_readsHead_152 : decode cX5_readsHead 152 = .ok (.iastore, 1) := by decide +kernel
theorem dX5_readsHead_153 : decode cX5_readsHead 153 = .ok (.aload_n 0, 1) := by decide +kernel
theorem dX5_readsHead_154 : decode cX5_readsHead 154 = .ok (.iload_n 1, 1) := by decide +kernel
theorem dX5_readsHead_155 : decode cX5_readsHead 155 = .ok (.invokevirtual 109, 3) := by decide +kernel
theorem dX5_readsHead_158 : decode cX5_readsHead 158 = .ok (.return_, 1) := by decide +kernel
theorem dX5_readsOne_0 : decode cX5_readsOne 0 = .ok (.aload_n 0, 1) := by decide +kernel
theorem dX5_readsOne_1 : decode cX5_readsOne 1 = .ok (.iload_n 1, 1) := by decide +kernel
theorem dX5_readsOne_2 : decode cX5_readsOne 2 = .ok (.invokevirtual 106, 3) := by decide +kernel
theorem dX5_readsOne_5 : decode cX5_readsOne 5 = .ok (.invokestatic 117, 3) := by decide +kernel
theorem dX5_readsOne_8 : decode cX5_readsOne 8 = .ok (.istore_n 2, 1) := by decide +kernel
theorem dX5_readsOne_9 : decode cX5_readsOne 9 = .ok (.aload_n 0, 1) := by decide +kernel
theorem dX5_readsOne_10 : decode cX5_readsOne 10 = .ok (.aload_n 0, 1) := by decide +kernel
theorem dX5_readsOne_11 : decode cX5_readsOne 11 = .ok (.getfield 102, 3) := by decide +kernel
theorem dX5_readsOne_14 : decode cX5_readsOne 14 = .ok (.ifCond .eq 25, 3) := by decide +kernel
theorem dX5_readsOne_17 : decode cX5_readsOne 17 = .ok (.iload_n 2, 1) := by decide +kernel
theorem dX5_readsOne_18 : decode cX5_readsOne 18 = .ok (.bipush (-9), 2) := by decide +kernel
theorem dX5_readsOne_20 : decode cX5_readsOne 20 = .ok (.if_icmp .eq 19, 3) := by decide +kernel
theorem dX5_readsOne_23 : decode cX5_readsOne 23 = .ok (.aload_n 0, 1) := by decide +kernel
theorem dX5_readsOne_24 : decode cX5_readsOne 24 = .ok (.getfield 28, 3) := by decide +kernel
theorem dX5_readsOne_27 : decode cX5_readsOne 27 = .ok (.bipush 7, 2) := by decide +kernel
theorem dX5_readsOne_29 : decode cX5_readsOne 29 = .ok (.iaload, 1) := by decide +kernel
theorem dX5_readsOne_30 : decode cX5_readsOne 30 = .ok (.bipush 6, 2) := by decide +kernel
theorem dX5_readsOne_32 : decode cX5_readsOne 32 = .ok (.if_icmp .ge 7, 3) := by decide +kernel
theorem dX5_readsOne_35 : decode cX5_readsOne 35 = .ok (.iconst 1, 1) := by decide +kernel
theorem dX5_readsOne_36 : decode cX5_readsOne 36 = .ok (.goto 4, 3) := by decide +kernel
theorem dX5_readsOne_39 : decode cX5_readsOne 39 = .ok (.iconst 0, 1) := by decide +kernel
theorem dX5_readsOne_40 : decode cX5_readsOne 40 = .ok (.putfield 102, 3) := by decide +kernel
theorem dX5_readsOne_43 : decode cX5_readsOne 43 = .ok (.aload_n 0, 1) := by decide +kernel
theorem dX5_readsOne_44 : decode cX5_readsOne 44 = .ok (.dup, 1) := by decide +kernel
theorem dX5_readsOne_45 : decode cX5_readsOne 45 = .ok (.getfield 99, 3) := by decide +kernel
theorem dX5_readsOne_48 : decode cX5_readsOne 48 = .ok (.aload_n 0, 1) := by decide +kernel
theorem dX5_readsOne_49 : decode cX5_readsOne 49 = .ok (.getfield 102, 3) := by decide +kernel
theorem dX5_readsOne_52 : decode cX5_readsOne 52 = .ok (.ifCond .eq 7, 3) := by decide +kernel
theorem dX5_readsOne_55 : decode cX5_readsOne 55 = .ok (.iconst 1, 1) := by decide +kernel
theorem dX5_readsOne_56 : decode cX5_readsOne 56 = .ok (.goto 4, 3) := by decide +kernel
theorem dX5_readsOne_59 : decode cX5_readsOne 59 = .ok (.iconst 0, 1) := by decide +kernel
theorem dX5_readsOne_60 : decode cX5_readsOne 60 = .ok (.iadd, 1) := by decide +kernel
theorem dX5_readsOne_61 : decode cX5_readsOne 61 = .ok (.putfield 99, 3) := by decide +kernel
theorem dX5_readsOne_64 : decode cX5_readsOne 64 = .ok (.aload_n 0, 1) := by decide +kernel
theorem dX5_readsOne_65 : decode cX5_readsOne 65 = .ok (.iload_n 1, 1) := by decide +kernel
theorem dX5_readsOne_66 : decode cX5_readsOne 66 = .ok (.iconst 0, 1) := by decide +kernel
theorem dX5_readsOne_67 : decode cX5_readsOne 67 = .ok (.aload_n 0, 1) := by decide +kernel
theorem dX5_readsOne_68 : decode cX5_readsOne 68 = .ok (.getfield 28, 3) := by decide +kernel
theorem dX5_readsOne_71 : decode cX5_readsOne 71 = .ok (.iconst 0, 1) := by decide +kernel
theorem dX5_readsOne_72 : decode cX5_readsOne 72 = .ok (.iaload, 1) := by decide +kernel
theorem dX5_readsOne_73 : decode cX5_readsOne 73 = .ok (.iconst 1, 1) := by decide +kernel
theorem dX5_readsOne_74 : decode cX5_readsOne 74 = .ok (.isub, 1) := by decide +kernel
theorem dX5_readsOne_75 : decode cX5_readsOne 75 = .ok (.invokevirtual 113, 3) := by decide +kernel
theorem dX5_readsOne_78 : decode cX5_readsOne 78 = .ok (.istore_n 3, 1) := by decide +kernel
theorem dX5_readsOne_79 : decode cX5_readsOne 79 = .ok (.aload_n 0, 1) := by decide +kernel
theorem dX5_readsOne_80 : decode cX5_readsOne 80 = .ok (.iload_n 1, 1) := by decide +kernel
theorem dX5_readsOne_81 : decode cX5_readsOne 81 = .ok (.iconst 0, 1) := by decide +kernel
theorem dX5_readsOne_82 : decode cX5_readsOne 82 = .ok (.bipush 9, 2) := by decide +kernel
theorem dX5_readsOne_84 : decode cX5_readsOne 84 = .ok (.invokevirtual 113, 3) := by decide +kernel
theorem dX5_readsOne_87 : decode cX5_readsOne 87 = .ok (.istore 4, 2) := by decide +kernel
theorem dX5_readsOne_89 : decode cX5_readsOne 89 = .ok (.aload_n 0, 1) := by decide +kernel
theorem dX5_readsOne_90 : decode cX5_readsOne 90 = .ok (.iload_n 1, 1) := by decide +kernel
theorem dX5_readsOne_91 : decode cX5_readsOne 91 = .ok (.iconst 0, 1) := by decide +kernel
theorem dX5_readsOne_92 : decode cX5_readsOne 92 = .ok (.bipush 7, 2) := by decide +kernel
theorem dX5_readsOne_94 : decode cX5_readsOne 94 = .ok (.invokevirtual 113, 3) := by decide +kernel
theorem dX5_readsOne_97 : decode cX5_readsOne 97 = .ok (.istore 5, 2) := by decide +kernel
theorem dX5_readsOne_99 : decode cX5_readsOne 99 = .ok (.aload_n 0, 1) := by decide +kernel
theorem dX5_readsOne_100 : decode cX5_readsOne 100 = .ok (.getfield 102, 3) := by decide +kernel
theorem dX5_readsOne_103 : decode cX5_readsOne 103 = .ok (.ifCond .eq 78, 3) := by decide +kernel
theorem dX5_readsOne_106 : decode cX5_readsOne 106 = .ok (.bipush 10, 2) := by decide +kernel
theorem dX5_readsOne_108 : decode cX5_readsOne 108 = .ok (.iconst 5, 1) := by decide +kernel
theorem dX5_readsOne_109 : decode cX5_readsOne 109 = .ok (.aload_n 0, 1) := by decide +kernel
theorem dX5_readsOne_110 : decode cX5_readsOne 110 = .ok (.getfield 28, 3) := by decide +kernel
theorem dX5_readsOne_113 : decode cX5_readsOne 113 = .ok (.bipush 7, 2) := by decide +kernel
theorem dX5_readsOne_115 : decode cX5_readsOne 115 = .ok (.iaload, 1) := by decide +kernel
theorem dX5_readsOne_116 : decode cX5_readsOne 116 = .ok (.imul, 1) := by decide +kernel
theorem dX5_readsOne_117 : decode cX5_readsOne 117 = .ok (.iadd, 1) := by decide +kernel
theorem dX5_readsOne_118 : decode cX5_readsOne 118 = .ok (.istore 6, 2) := by decide +kernel
theorem dX5_readsOne_120 : decode cX5_readsOne 120 = .ok (.aload_n 0, 1) := by decide +kernel
theorem dX5_readsOne_121 : decode cX5_readsOne 121 = .ok (.getfield 28, 3) := by decide +kernel
theorem dX5_readsOne_124 : decode cX5_readsOne 124 = .ok (.iload 6, 2) := by decide +kernel
theorem dX5_readsOne_126 : decode cX5_readsOne 126 = .ok (.iload_n 2, 1) := by decide +kernel
theorem dX5_readsOne_127 : decode cX5_readsOne 127 = .ok (.iastore, 1) := by decide +kernel
theorem dX5_readsOne_128 : decode cX5_readsOne 128 = .ok (.aload_n 0, 1) := by decide +kernel
theorem dX5_readsOne_129 : decode cX5_readsOne 129 = .ok (.getfield 28, 3) := by decide +kernel
theorem dX5_readsOne_132 : decode cX5_readsOne 132 = .ok (.iload 6, 2) := by decide +kernel
theorem dX5_readsOne_134 : decode cX5_readsOne 134 = .ok (.iconst 1, 1) := by decide +kernel
theorem dX5_readsOne_135 : decode cX5_readsOne 135 = .ok (.iadd, 1) := by decide +kernel
theorem dX5_readsOne_136 : decode cX5_readsOne 136 = .ok (.iload_n 3, 1) := by decide +kernel
theorem dX5_readsOne_137 : decode cX5_readsOne 137 = .ok (.iastore, 1) := by decide +kernel
theorem dX5_readsOne_138 : decode cX5_readsOne 138 = .ok (.aload_n 0, 1) := by decide +kernel
theorem dX5_readsOne_139 : decode cX5_readsOne 139 = .ok (.getfield 28, 3) := by decide +kernel
theorem dX5_readsOne_142 : decode cX5_readsOne 142 = .ok (.iload 6, 2) := by decide +kernel
theorem dX5_readsOne_144 : decode cX5_readsOne 144 = .ok (.iconst 2, 1) := by decide +kernel
theorem dX5_readsOne_145 : decode cX5_readsOne 145 = .ok (.iadd, 1) := by decide +kernel
theorem dX5_readsOne_146 : decode cX5_readsOne 146 = .ok (.iload_n 3, 1) := by decide +kernel
theorem dX5_readsOne_147 : decode cX5_readsOne 147 = .ok (.iastore, 1) := by decide +kernel
theorem dX5_readsOne_148 : decode cX5_readsOne 148 = .ok (.aload_n 0, 1) := by decide +kernel
theorem dX5_readsOne_149 : decode cX5_readsOne 149 = .ok (.getfield 28, 3) := by decide +kernel
theorem dX5_readsOne_152 : decode cX5_readsOne 152 = .ok (.iload 6, 2) := by decide +kernel
theorem dX5_readsOne_154 : decode cX5_readsOne 154 = .ok (.iconst 3, 1) := by decide +kernel
theorem dX5_readsOne_155 : decode cX5_readsOne 155 = .ok (.iadd, 1) := by decide +kernel
theorem dX5_readsOne_156 : decode cX5_readsOne 156 = .ok (.iload 4, 2) := by decide +kernel
theorem dX5_readsOne_158 : decode cX5_readsOne 158 = .ok (.iastore, 1) := by decide +kernel
theorem dX5_readsOne_159 : decode cX5_readsOne 159 = .ok (.aload_n 0, 1) := by decide +kernel
theorem dX5_readsOne_160 : decode cX5_readsOne 160 = .ok (.getfield 28, 3) := by decide +kernel
theorem dX5_readsOne_163 : decode cX5_readsOne 163 = .ok (.iload 6, 2) := by decide +kernel
theorem dX5_readsOne_165 : decode cX5_readsOne 165 = .ok (.iconst 4, 1) := by decide +kernel
theorem dX5_readsOne_166 : decode cX5_readsOne 166 = .ok (.iadd, 1) := by decide +kernel
theorem dX5_readsOne_167 : decode cX5_readsOne 167 = .ok (.iload 5, 2) := by decide +kernel
theorem dX5_readsOne_169 : decode cX5_readsOne 169 = .ok (.iastore, 1) := by decide +kernel
theorem dX5_readsOne_170 : decode cX5_readsOne 170 = .ok (.aload_n 0, 1) := by decide +kernel
theorem dX5_readsOne_171 : decode cX5_readsOne 171 = .ok (.getfield 28, 3) := by decide +kernel
theorem dX5_readsOne_174 : decode cX5_readsOne 174 = .ok (.bipush 7, 2) := by decide +kernel
theorem dX5_readsOne_176 : decode cX5_readsOne 176 = .ok (.dup2, 1) := by decide +kernel
theorem dX5_readsOne_177 : decode cX5_readsOne 177 = .ok (.iaload, 1) := by decide +kernel
theorem dX5_readsOne_178 : decode cX5_readsOne 178 = .ok (.iconst 1, 1) := by decide +kernel
theorem dX5_readsOne_179 : decode cX5_readsOne 179 = .ok (.iadd, 1) := by decide +kernel
theorem dX5_readsOne_180 : decode cX5_readsOne 180 = .ok (.iastore, 1) := by decide +kernel
theorem dX5_readsOne_181 : decode cX5_readsOne 181 = .ok (.aload_n 0, 1) := by decide +kernel
theorem dX5_readsOne_182 : decode cX5_readsOne 182 = .ok (.iload_n 1, 1) := by decide +kernel
theorem dX5_readsOne_183 : decode cX5_readsOne 183 = .ok (.invokevirtual 109, 3) := by decide +kernel
theorem dX5_readsOne_186 : decode cX5_readsOne 186 = .ok (.return_, 1) := by decide +kernel
theorem dX5_reads_0 : decode cX5_reads 0 = .ok (.iconst 0, 1) := by decide +kernel
theorem dX5_reads_1 : decode cX5_reads 1 = .ok (.istore_n 2, 1) := by decide +kernel
theorem dX5_reads_2 : decode cX5_reads 2 = .ok (.iload_n 2, 1) := by decide +kernel
theorem dX5_reads_3 : decode cX5_reads 3 = .ok (.sipush 400, 3) := by decide +kernel
theorem dX5_reads_6 : decode cX5_reads 6 = .ok (.if_icmp .ge 16, 3) := by decide +kernel
theorem dX5_reads_9 : decode cX5_reads 9 = .ok (.aload_n 0, 1) := by decide +kernel
theorem dX5_reads_10 : decode cX5_reads 10 = .ok (.getfield 28, 3) := by decide +kernel
theorem dX5_reads_13 : decode cX5_reads 13 = .ok (.iload_n 2, 1) := by decide +kernel
theorem dX5_reads_14 : decode cX5_reads 14 = .ok (.iconst 0, 1) := by decide +kernel
theorem dX5_reads_15 : decode cX5_reads 15 = .ok (.iastore, 1) := by decide +kernel
theorem dX5_reads_16 : decode cX5_reads 16 = .ok (.iinc 2 1, 3) := by decide +kernel
theorem dX5_reads_19 : decode cX5_reads 19 = .ok (.goto (-17), 3) := by decide +kernel
theorem dX5_reads_22 : decode cX5_reads 22 = .ok (.aload_n 0, 1) := by decide +kernel
theorem dX5_reads_23 : decode cX5_reads 23 = .ok (.iconst 0, 1) := by decide +kernel
theorem dX5_reads_24 : decode cX5_reads 24 = .ok (.putfield 99, 3) := by decide +kernel
theorem dX5_reads_27 : decode cX5_reads 27 = .ok (.aload_n 0, 1) := by decide +kernel
theorem dX5_reads_28 : decode cX5_reads 28 = .ok (.iconst 1, 1) := by decide +kernel
theorem dX5_reads_29 : decode cX5_reads 29 = .ok (.putfield 102, 3) := by decide +kernel
theorem dX5_reads_32 : decode cX5_reads 32 = .ok (.aload_n 0, 1) := by decide +kernel
theorem dX5_reads_33 : decode cX5_reads 33 = .ok (.iload_n 1, 1) := by decide +kernel
theorem dX5_reads_34 : decode cX5_reads 34 = .ok (.invokevirtual 120, 3) := by decide +kernel
theorem dX5_reads_37 : decode cX5_reads 37 = .ok (.aload_n 0, 1) := by decide +kernel
theorem dX5_reads_38 : decode cX5_reads 38 = .ok (.getfield 102, 3) := by decide +kernel
theorem dX5_reads_41 : decode cX5_reads 41 = .ok (.ifCond .eq 8, 3) := by decide +kernel
theorem dX5_reads_44 : decode cX5_reads 44 = .ok (.aload_n 0, 1) := by decide +kernel
theorem dX5_reads_45 : decode cX5_reads 45 = .ok (.iload_n 1, 1) := by decide +kernel
theorem dX5_reads_46 : decode cX5_reads 46 = .ok (.invokevirtual 123, 3) := by decide +kernel
theorem dX5_reads_49 : decode cX5_reads 49 = .ok (.aload_n 0, 1) := by decide +kernel
theorem dX5_reads_50 : decode cX5_reads 50 = .ok (.getfield 102, 3) := by decide +kernel
theorem dX5_reads_53 : decode cX5_reads 53 = .ok (.ifCond .eq 24, 3) := by decide +kernel
theorem dX5_reads_56 : decode cX5_reads 56 = .ok (.aload_n 0, 1) := by decide +kernel
theorem dX5_reads_57 : decode cX5_reads 57 = .ok (.getfield 99, 3) := by decide +kernel
theorem dX5_reads_60 : decode cX5_reads 60 = .ok (.aload_n 0, 1) := by decide +kernel
theorem dX5_reads_61 : decode cX5_reads 61 = .ok (.getfield 19, 3) := by decide +kernel
theorem dX5_reads_64 : decode cX5_reads 64 = .ok (.iload_n 1, 1) := by decide +kernel
theorem dX5_reads_65 : decode cX5_reads 65 = .ok (.iaload, 1) := by decide +kernel
theorem dX5_reads_66 : decode cX5_reads 66 = .ok (.if_icmp .ge 11, 3) := by decide +kernel
theorem dX5_reads_69 : decode cX5_reads 69 = .ok (.aload_n 0, 1) := by decide +kernel
theorem dX5_reads_70 : decode cX5_reads 70 = .ok (.iload_n 1, 1) := by decide +kernel
theorem dX5_reads_71 : decode cX5_reads 71 = .ok (.invokevirtual 123, 3) := by decide +kernel
theorem dX5_reads_74 : decode cX5_reads 74 = .ok (.goto (-25), 3) := by decide +kernel
theorem dX5_reads_77 : decode cX5_reads 77 = .ok (.aload_n 0, 1) := by decide +kernel
theorem dX5_reads_78 : decode cX5_reads 78 = .ok (.getfield 102, 3) := by decide +kernel
theorem dX5_reads_81 : decode cX5_reads 81 = .ok (.ifCond .eq 8, 3) := by decide +kernel
theorem dX5_reads_84 : decode cX5_reads 84 = .ok (.bipush (-9), 2) := by decide +kernel
theorem dX5_reads_86 : decode cX5_reads 86 = .ok (.goto 7, 3) := by decide +kernel
theorem dX5_reads_89 : decode cX5_reads 89 = .ok (.aload_n 0, 1) := by decide +kernel
theorem dX5_reads_90 : decode cX5_reads 90 = .ok (.getfield 99, 3) := by decide +kernel
theorem dX5_reads_93 : decode cX5_reads 93 = .ok (.ireturn, 1) := by decide +kernel
theorem dX5_fault_0 : decode cX5_fault 0 = .ok (.iload_n 1, 1) := by decide +kernel
theorem dX5_fault_1 : decode cX5_fault 1 = .ok (.invokestatic 96, 3) := by decide +kernel
theorem dX5_fault_4 : decode cX5_fault 4 = .ok (.ifCond .ne 5, 3) := by decide +kernel
theorem dX5_fault_7 : decode cX5_fault 7 = .ok (.iconst (-1), 1) := by decide +kernel
theorem dX5_fault_8 : decode cX5_fault 8 = .ok (.ireturn, 1) := by decide +kernel
theorem dX5_fault_9 : decode cX5_fault 9 = .ok (.aload_n 0, 1) := by decide +kernel
theorem dX5_fault_10 : decode cX5_fault 10 = .ok (.getfield 19, 3) := by decide +kernel
theorem dX5_fault_13 : decode cX5_fault 13 = .ok (.iload_n 1, 1) := by decide +kernel
theorem dX5_fault_14 : decode cX5_fault 14 = .ok (.iaload, 1) := by decide +kernel
theorem dX5_fault_15 : decode cX5_fault 15 = .ok (.ifCond .ge 11, 3) := by decide +kernel
theorem dX5_fault_18 : decode cX5_fault 18 = .ok (.aload_n 0, 1) := by decide +kernel
theorem dX5_fault_19 : decode cX5_fault 19 = .ok (.iconst 1, 1) := by decide +kernel
theorem dX5_fault_20 : decode cX5_fault 20 = .ok (.invokevirtual 81, 3) := by decide +kernel
theorem dX5_fault_23 : decode cX5_fault 23 = .ok (.goto 8, 3) := by decide +kernel
theorem dX5_fault_26 : decode cX5_fault 26 = .ok (.aload_n 0, 1) := by decide +kernel
theorem dX5_fault_27 : decode cX5_fault 27 = .ok (.iload_n 1, 1) := by decide +kernel
theorem dX5_fault_28 : decode cX5_fault 28 = .ok (.invokevirtual 126, 3) := by decide +kernel
theorem dX5_fault_31 : decode cX5_fault 31 = .ok (.ireturn, 1) := by decide +kernel
theorem dX5_copies_0 : decode cX5_copies 0 = .ok (.iconst 0, 1) := by decide +kernel
theorem dX5_copies_1 : decode cX5_copies 1 = .ok (.istore 4, 2) := by decide +kernel
theorem dX5_copies_3 : decode cX5_copies 3 = .ok (.iload 4, 2) := by decide +kernel
theorem dX5_copies_5 : decode cX5_copies 5 = .ok (.sipush 400, 3) := by decide +kernel
theorem dX5_copies_8 : decode cX5_copies 8 = .ok (.if_icmp .ge 21, 3) := by decide +kernel
theorem dX5_copies_11 : decode cX5_copies 11 = .ok (.aload_n 2, 1) := by decide +kernel
theorem dX5_copies_12 : decode cX5_copies 12 = .ok (.iload_n 3, 1) := by decide +kernel
theorem dX5_copies_13 : decode cX5_copies 13 = .ok (.iload 4, 2) := by decide +kernel
theorem dX5_copies_15 : decode cX5_copies 15 = .ok (.iadd, 1) := by decide +kernel
theorem dX5_copies_16 : decode cX5_copies 16 = .ok (.aload_n 0, 1) := by decide +kernel
theorem dX5_copies_17 : decode cX5_copies 17 = .ok (.iload_n 1, 1) := by decide +kernel
theorem dX5_copies_18 : decode cX5_copies 18 = .ok (.iload 4, 2) := by decide +kernel
theorem dX5_copies_20 : decode cX5_copies 20 = .ok (.iadd, 1) := by decide +kernel
theorem dX5_copies_21 : decode cX5_copies 21 = .ok (.iaload, 1) := by decide +kernel
theorem dX5_copies_22 : decode cX5_copies 22 = .ok (.iastore, 1) := by decide +kernel
theorem dX5_copies_23 : decode cX5_copies 23 = .ok (.iinc 4 1, 3) := by decide +kernel
theorem dX5_copies_26 : decode cX5_copies 26 = .ok (.goto (-23), 3) := by decide +kernel
theorem dX5_copies_29 : decode cX5_copies 29 = .ok (.return_, 1) := by decide +kernel
theorem dX5_land_0 : decode cX5_land 0 = .ok (.iload_n 1, 1) := by decide +kernel
theorem dX5_land_1 : decode cX5_land 1 = .ok (.invokestatic 96, 3) := by decide +kernel
theorem dX5_land_4 : decode cX5_land 4 = .ok (.ifCond .ne 5, 3) := by decide +kernel
theorem dX5_land_7 : decode cX5_land 7 = .ok (.iconst (-1), 1) := by decide +kernel
theorem dX5_land_8 : decode cX5_land 8 = .ok (.ireturn, 1) := by decide +kernel
theorem dX5_land_9 : decode cX5_land 9 = .ok (.aload_n 0, 1) := by decide +kernel
theorem dX5_land_10 : decode cX5_land 10 = .ok (.getfield 19, 3) := by decide +kernel
theorem dX5_land_13 : decode cX5_land 13 = .ok (.iload_n 1, 1) := by decide +kernel
theorem dX5_land_14 : decode cX5_land 14 = .ok (.iaload, 1) := by decide +kernel
theorem dX5_land_15 : decode cX5_land 15 = .ok (.ifCond .ge 9, 3) := by decide +kernel
theorem dX5_land_18 : decode cX5_land 18 = .ok (.aload_n 0, 1) := by decide +kernel
theorem dX5_land_19 : decode cX5_land 19 = .ok (.iconst 1, 1) := by decide +kernel
theorem dX5_land_20 : decode cX5_land 20 = .ok (.invokevirtual 81, 3) := by decide +kernel
theorem dX5_land_23 : decode cX5_land 23 = .ok (.ireturn, 1) := by decide +kernel
theorem dX5_land_24 : decode cX5_land 24 = .ok (.aload_n 0, 1) := by decide +kernel
theorem dX5_land_25 : decode cX5_land 25 = .ok (.iload_n 1, 1) := by decide +kernel
theorem dX5_land_26 : decode cX5_land 26 = .ok (.invokevirtual 126, 3) := by decide +kernel
theorem dX5_land_29 : decode cX5_land 29 = .ok (.bipush (-9), 2) := by decide +kernel
theorem dX5_land_31 : decode cX5_land 31 = .ok (.if_icmp .eq 6, 3) := by decide +kernel
theorem dX5_land_34 : decode cX5_land 34 = .ok (.bipush (-4), 2) := by decide +kernel
theorem dX5_land_36 : decode cX5_land 36 = .ok (.ireturn, 1) := by decide +kernel
theorem dX5_land_37 : decode cX5_land 37 = .ok (.aload_n 0, 1) := by decide +kernel
theorem dX5_land_38 : decode cX5_land 38 = .ok (.getfield 28, 3) := by decide +kernel
theorem dX5_land_41 : decode cX5_land 41 = .ok (.iconst 0, 1) := by decide +kernel
theorem dX5_land_42 : decode cX5_land 42 = .ok (.aload_n 0, 1) := by decide +kernel
theorem dX5_land_43 : decode cX5_land 43 = .ok (.getfield 25, 3) := by decide +kernel
theorem dX5_land_46 : decode cX5_land 46 = .ok (.iconst 0, 1) := by decide +kernel
theorem dX5_land_47 : decode cX5_land 47 = .ok (.invokestatic 129, 3) := by decide +kernel
theorem dX5_land_50 : decode cX5_land 50 = .ok (.iconst 0, 1) := by decide +kernel
theorem dX5_land_51 : decode cX5_land 51 = .ok (.istore_n 2, 1) := by decide +kernel
theorem dX5_land_52 : decode cX5_land 52 = .ok (.iload_n 2, 1) := by decide +kernel
theorem dX5_land_53 : decode cX5_land 53 = .ok (.iconst 3, 1) := by decide +kernel
theorem dX5_land_54 : decode cX5_land 54 = .ok (.if_icmp .ge 16, 3) := by decide +kernel
theorem dX5_land_57 : decode cX5_land 57 = .ok (.aload_n 0, 1) := by decide +kernel
theorem dX5_land_58 : decode cX5_land 58 = .ok (.getfield 34, 3) := by decide +kernel
theorem dX5_land_61 : decode cX5_land 61 = .ok (.iload_n 2, 1) := by decide +kernel
theorem dX5_land_62 : decode cX5_land 62 = .ok (.iconst 0, 1) := by decide +kernel
theorem dX5_land_63 : decode cX5_land 63 = .ok (.bastore, 1) := by decide +kernel
theorem dX5_land_64 : decode cX5_land 64 = .ok (.iinc 2 1, 3) := by decide +kernel
theorem dX5_land_67 : decode cX5_land 67 = .ok (.goto (-15), 3) := by decide +kernel
theorem dX5_land_70 : decode cX5_land 70 = .ok (.aload_n 0, 1) := by decide +kernel
theorem dX5_land_71 : decode cX5_land 71 = .ok (.getfield 25, 3) := by decide +kernel
theorem dX5_land_74 : decode cX5_land 74 = .ok (.bipush 7, 2) := by decide +kernel
theorem dX5_land_76 : decode cX5_land 76 = .ok (.iaload, 1) := by decide +kernel
theorem dX5_land_77 : decode cX5_land 77 = .ok (.ireturn, 1) := by decide +kernel
theorem dX5_isOne_0 : decode cX5_isOne 0 = .ok (.iload_n 1, 1) := by decide +kernel
theorem dX5_isOne_1 : decode cX5_isOne 1 = .ok (.iconst 0, 1) := by decide +kernel
theorem dX5_isOne_2 : decode cX5_isOne 2 = .ok (.aload_n 0, 1) := by decide +kernel
theorem dX5_isOne_3 : decode cX5_isOne 3 = .ok (.getfield 25, 3) := by decide +kernel
theorem dX5_isOne_6 : decode cX5_isOne 6 = .ok (.bipush 7, 2) := by decide +kernel
theorem dX5_isOne_8 : decode cX5_isOne 8 = .ok (.iaload, 1) := by decide +kernel
theorem dX5_isOne_9 : decode cX5_isOne 9 = .ok (.iconst 1, 1) := by decide +kernel
theorem dX5_isOne_10 : decode cX5_isOne 10 = .ok (.isub, 1) := by decide +kernel
theorem dX5_isOne_11 : decode cX5_isOne 11 = .ok (.invokestatic 73, 3) := by decide +kernel
theorem dX5_isOne_14 : decode cX5_isOne 14 = .ok (.ireturn, 1) := by decide +kernel
theorem dX5_are_0 : decode cX5_are 0 = .ok (.aload_n 0, 1) := by decide +kernel
theorem dX5_are_1 : decode cX5_are 1 = .ok (.getfield 25, 3) := by decide +kernel
theorem dX5_are_4 : decode cX5_are 4 = .ok (.iconst 0, 1) := by decide +kernel
theorem dX5_are_5 : decode cX5_are 5 = .ok (.iaload, 1) := by decide +kernel
theorem dX5_are_6 : decode cX5_are 6 = .ok (.ifCond .le 7, 3) := by decide +kernel
theorem dX5_are_9 : decode cX5_are 9 = .ok (.iconst 1, 1) := by decide +kernel
theorem dX5_are_10 : decode cX5_are 10 = .ok (.goto 4, 3) := by decide +kernel
theorem dX5_are_13 : decode cX5_are 13 = .ok (.iconst 0, 1) := by decide +kernel
theorem dX5_are_14 : decode cX5_are 14 = .ok (.ireturn, 1) := by decide +kernel
theorem dX5_isCell_0 : decode cX5_isCell 0 = .ok (.iload_n 1, 1) := by decide +kernel
theorem dX5_isCell_1 : decode cX5_isCell 1 = .ok (.iconst 0, 1) := by decide +kernel
theorem dX5_isCell_2 : decode cX5_isCell 2 = .ok (.aload_n 0, 1) := by decide +kernel
theorem dX5_isCell_3 : decode cX5_isCell 3 = .ok (.getfield 25, 3) := by decide +kernel
theorem dX5_isCell_6 : decode cX5_isCell 6 = .ok (.iconst 0, 1) := by decide +kernel
theorem dX5_isCell_7 : decode cX5_isCell 7 = .ok (.iaload, 1) := by decide +kernel
theorem dX5_isCell_8 : decode cX5_isCell 8 = .ok (.iconst 1, 1) := by decide +kernel
theorem dX5_isCell_9 : decode cX5_isCell 9 = .ok (.isub, 1) := by decide +kernel
theorem dX5_isCell_10 : decode cX5_isCell 10 = .ok (.invokestatic 73, 3) := by decide +kernel
theorem dX5_isCell_13 : decode cX5_isCell 13 = .ok (.ireturn, 1) := by decide +kernel
theorem dX5_areCoasts_0 : decode cX5_areCoasts 0 = .ok (.iload_n 1, 1) := by decide +kernel
theorem dX5_areCoasts_1 : decode cX5_areCoasts 1 = .ok (.iconst 0, 1) := by decide +kernel
theorem dX5_areCoasts_2 : decode cX5_areCoasts 2 = .ok (.aload_n 0, 1) := by decide +kernel
theorem dX5_areCoasts_3 : decode cX5_areCoasts 3 = .ok (.getfield 25, 3) := by decide +kernel
theorem dX5_areCoasts_6 : decode cX5_areCoasts 6 = .ok (.iconst 0, 1) := by decide +kernel
theorem dX5_areCoasts_7 : decode cX5_areCoasts 7 = .ok (.iaload, 1) := by decide +kernel
theorem dX5_areCoasts_8 : decode cX5_areCoasts 8 = .ok (.invokestatic 73, 3) := by decide +kernel
theorem dX5_areCoasts_11 : decode cX5_areCoasts 11 = .ok (.ifCond .eq 21, 3) := by decide +kernel
theorem dX5_areCoasts_14 : decode cX5_areCoasts 14 = .ok (.iload_n 2, 1) := by decide +kernel
theorem dX5_areCoasts_15 : decode cX5_areCoasts 15 = .ok (.iload_n 1, 1) := by decide +kernel
theorem dX5_areCoasts_16 : decode cX5_areCoasts 16 = .ok (.aload_n 0, 1) := by decide +kernel
theorem dX5_areCoasts_17 : decode cX5_areCoasts 17 = .ok (.getfield 25, 3) := by decide +kernel
theorem dX5_areCoasts_20 : decode cX5_areCoasts 20 = .ok (.iconst 0, 1) := by decide +kernel
theorem dX5_areCoasts_21 : decode cX5_areCoasts 21 = .ok (.iaload, 1) := by decide +kernel
theorem dX5_areCoasts_22 : decode cX5_areCoasts 22 = .ok (.invokestatic 73, 3) := by decide +kernel
theorem dX5_areCoasts_25 : decode cX5_areCoasts 25 = .ok (.ifCond .eq 7, 3) := by decide +kernel
theorem dX5_areCoasts_28 : decode cX5_areCoasts 28 = .ok (.iconst 1, 1) := by decide +kernel
theorem dX5_areCoasts_29 : decode cX5_areCoasts 29 = .ok (.goto 4, 3) := by decide +kernel
theorem dX5_areCoasts_32 : decode cX5_areCoasts 32 = .ok (.iconst 0, 1) := by decide +kernel
theorem dX5_areCoasts_33 : decode cX5_areCoasts 33 = .ok (.ireturn, 1) := by decide +kernel
theorem dX5_isOf_0 : decode cX5_isOf 0 = .ok (.iload_n 0, 1) := by decide +kernel
theorem dX5_isOf_1 : decode cX5_isOf 1 = .ok (.iload_n 1, 1) := by decide +kernel
theorem dX5_isOf_2 : decode cX5_isOf 2 = .ok (.if_icmp .eq 23, 3) := by decide +kernel
theorem dX5_isOf_5 : decode cX5_isOf 5 = .ok (.iload_n 0, 1) := by decide +kernel
theorem dX5_isOf_6 : decode cX5_isOf 6 = .ok (.iconst 4, 1) := by decide +kernel
theorem dX5_isOf_7 : decode cX5_isOf 7 = .ok (.if_icmp .ne 8, 3) := by decide +kernel
theorem dX5_isOf_10 : decode cX5_isOf 10 = .ok (.iload_n 1, 1) := by decide +kernel
theorem dX5_isOf_11 : decode cX5_isOf 11 = .ok (.iconst 1, 1) := by decide +kernel
theorem dX5_isOf_12 : decode cX5_isOf 12 = .ok (.if_icmp .eq 13, 3) := by decide +kernel
theorem dX5_isOf_15 : decode cX5_isOf 15 = .ok (.iload_n 0, 1) := by decide +kernel
theorem dX5_isOf_16 : decode cX5_isOf 16 = .ok (.iconst 5, 1) := by decide +kernel
theorem dX5_isOf_17 : decode cX5_isOf 17 = .ok (.if_icmp .ne 12, 3) := by decide +kernel
theorem dX5_isOf_20 : decode cX5_isOf 20 = .ok (.iload_n 1, 1) := by decide +kernel
theorem dX5_isOf_21 : decode cX5_isOf 21 = .ok (.iconst 2, 1) := by decide +kernel
theorem dX5_isOf_22 : decode cX5_isOf 22 = .ok (.if_icmp .ne 7, 3) := by decide +kernel
theorem dX5_isOf_25 : decode cX5_isOf 25 = .ok (.iconst 1, 1) := by decide +kernel
theorem dX5_isOf_26 : decode cX5_isOf 26 = .ok (.goto 4, 3) := by decide +kernel
theorem dX5_isOf_29 : decode cX5_isOf 29 = .ok (.iconst 0, 1) := by decide +kernel
theorem dX5_isOf_30 : decode cX5_isOf 30 = .ok (.ireturn, 1) := by decide +kernel
theorem dX5_belongsBy_0 : decode cX5_belongsBy 0 = .ok (.iload_n 2, 1) := by decide +kernel
theorem dX5_belongsBy_1 : decode cX5_belongsBy 1 = .ok (.iload 4, 2) := by decide +kernel
theorem dX5_belongsBy_3 : decode cX5_belongsBy 3 = .ok (.iload 5, 2) := by decide +kernel
theorem dX5_belongsBy_5 : decode cX5_belongsBy 5 = .ok (.iconst 1, 1) := by decide +kernel
theorem dX5_belongsBy_6 : decode cX5_belongsBy 6 = .ok (.isub, 1) := by decide +kernel
theorem dX5_belongsBy_7 : decode cX5_belongsBy 7 = .ok (.invokestatic 73, 3) := by decide +kernel
theorem dX5_belongsBy_10 : decode cX5_belongsBy 10 = .ok (.istore 6, 2) := by decide +kernel
theorem dX5_belongsBy_12 : decode cX5_belongsBy 12 = .ok (.iload_n 3, 1) := by decide +kernel
theorem dX5_belongsBy_13 : decode cX5_belongsBy 13 = .ok (.aload_n 0, 1) := by decide +kernel
theorem dX5_belongsBy_14 : decode cX5_belongsBy 14 = .ok (.getfield 25, 3) := by decide +kernel
theorem dX5_belongsBy_17 : decode cX5_belongsBy 17 = .ok (.iconst 5, 1) := by decide +kernel
theorem dX5_belongsBy_18 : decode cX5_belongsBy 18 = .ok (.iaload, 1) := by decide +kernel
theorem dX5_belongsBy_19 : decode cX5_belongsBy 19 = .ok (.aload_n 0, 1) := by decide +kernel
theorem dX5_belongsBy_20 : decode cX5_belongsBy 20 = .ok (.getfield 25, 3) := by decide +kernel
theorem dX5_belongsBy_23 : decode cX5_belongsBy 23 = .ok (.bipush 6, 2) := by decide +kernel
theorem dX5_belongsBy_25 : decode cX5_belongsBy 25 = .ok (.iaload, 1) := by decide +kernel
theorem dX5_belongsBy_26 : decode cX5_belongsBy 26 = .ok (.iconst 1, 1) := by decide +kernel
theorem dX5_belongsBy_27 : decode cX5_belongsBy 27 = .ok (.isub, 1) := by decide +kernel
theorem dX5_belongsBy_28 : decode cX5_belongsBy 28 = .ok (.invokestatic 73, 3) := by decide +kernel
theorem dX5_belongsBy_31 : decode cX5_belongsBy 31 = .ok (.istore 7, 2) := by decide +kernel
theorem dX5_belongsBy_33 : decode cX5_belongsBy 33 = .ok (.iload_n 2, 1) := by decide +kernel
theorem dX5_belongsBy_34 : decode cX5_belongsBy 34 = .ok (.iload 4, 2) := by decide +kernel
theorem dX5_belongsBy_36 : decode cX5_belongsBy 36 = .ok (.iconst 1, 1) := by decide +kernel
theorem dX5_belongsBy_37 : decode cX5_belongsBy 37 = .ok (.isub, 1) := by decide +kernel
theorem dX5_belongsBy_38 : decode cX5_belongsBy 38 = .ok (.iload 5, 2) := by decide +kernel
theorem dX5_belongsBy_40 : decode cX5_belongsBy 40 = .ok (.invokestatic 73, 3) := by decide +kernel
theorem dX5_belongsBy_43 : decode cX5_belongsBy 43 = .ok (.istore 8, 2) := by decide +kernel
theorem dX5_belongsBy_45 : decode cX5_belongsBy 45 = .ok (.iload_n 1, 1) := by decide +kernel
theorem dX5_belongsBy_46 : decode cX5_belongsBy 46 = .ok (.tableswitch 99 1 5 #[34, 54, 79, 37, 57], 34) := by decide +kernel
theorem dX5_belongsBy_80 : decode cX5_belongsBy 80 = .ok (.iload 7, 2) := by decide +kernel
theorem dX5_belongsBy_82 : decode cX5_belongsBy 82 = .ok (.ireturn, 1) := by decide +kernel
theorem dX5_belongsBy_83 : decode cX5_belongsBy 83 = .ok (.iload 7, 2) := by decide +kernel
theorem dX5_belongsBy_85 : decode cX5_belongsBy 85 = .ok (.ifCond .eq 13, 3) := by decide +kernel
theorem dX5_belongsBy_88 : decode cX5_belongsBy 88 = .ok (.iload_n 2, 1) := by decide +kernel
theorem dX5_belongsBy_89 : decode cX5_belongsBy 89 = .ok (.iload 4, 2) := by decide +kernel
theorem dX5_belongsBy_91 : decode cX5_belongsBy 91 = .ok (.if_icmp .lt 7, 3) := by decide +kernel
theorem dX5_belongsBy_94 : decode cX5_belongsBy 94 = .ok (.iconst 1, 1) := by decide +kernel
theorem dX5_belongsBy_95 : decode cX5_belongsBy 95 = .ok (.goto 4, 3) := by decide +kernel
theorem dX5_belongsBy_98 : decode cX5_belongsBy 98 = .ok (.iconst 0, 1) := by decide +kernel
theorem dX5_belongsBy_99 : decode cX5_belongsBy 99 = .ok (.ireturn, 1) := by decide +kernel
theorem dX5_belongsBy_100 : decode cX5_belongsBy 100 = .ok (.iload 8, 2) := by decide +kernel
theorem dX5_belongsBy_102 : decode cX5_belongsBy 102 = .ok (.ireturn, 1) := by decide +kernel
theorem dX5_belongsBy_103 : decode cX5_belongsBy 103 = .ok (.iload 8, 2) := by decide +kernel
theorem dX5_belongsBy_105 : decode cX5_belongsBy 105 = .ok (.ifCond .eq 18, 3) := by decide +kernel
theorem dX5_belongsBy_108 : decode cX5_belongsBy 108 = .ok (.iload_n 2, 1) := by decide +kernel
theorem dX5_belongsBy_109 : decode cX5_belongsBy 109 = .ok (.iload 4, 2) := by decide +kernel
theorem dX5_belongsBy_111 : decode cX5_belongsBy 111 = .ok (.iload 5, 2) := by decide +kernel
theorem dX5_belongsBy_113 : decode cX5_belongsBy 113 = .ok (.iadd, 1) := by decide +kernel
theorem dX5_belongsBy_114 : decode cX5_belongsBy 114 = .ok (.iconst 2, 1) := by decide +kernel
theorem dX5_belongsBy_115 : decode cX5_belongsBy 115 = .ok (.idiv, 1) := by decide +kernel
theorem dX5_belongsBy_116 : decode cX5_belongsBy 116 = .ok (.if_icmp .ne 7, 3) := by decide +kernel
theorem dX5_belongsBy_119 : decode cX5_belongsBy 119 = .ok (.iconst 1, 1) := by decide +kernel
theorem dX5_belongsBy_120 : decode cX5_belongsBy 120 = .ok (.goto 4, 3) := by decide +kernel
theorem dX5_belongsBy_123 : decode cX5_belongsBy 123 = .ok (.iconst 0, 1) := by decide +kernel
theorem dX5_belongsBy_124 : decode cX5_belongsBy 124 = .ok (.ireturn, 1) := by decide +kernel
theorem dX5_belongsBy_125 : decode cX5_belongsBy 125 = .ok (.iload 6, 2) := by decide +kernel
theorem dX5_belongsBy_127 : decode cX5_belongsBy 127 = .ok (.ifCond .eq 16, 3) := by decide +kernel
theorem dX5_belongsBy_130 : decode cX5_belongsBy 130 = .ok (.iload 5, 2) := by decide +kernel
theorem dX5_belongsBy_132 : decode cX5_belongsBy 132 = .ok (.iload 4, 2) := by decide +kernel
theorem dX5_belongsBy_134 : decode cX5_belongsBy 134 = .ok (.isub, 1) := by decide +kernel
theorem dX5_belongsBy_135 : decode cX5_belongsBy 135 = .ok (.iconst 2, 1) := by decide +kernel
theorem dX5_belongsBy_136 : decode cX5_belongsBy 136 = .ok (.if_icmp .le 7, 3) := by decide +kernel
theorem dX5_belongsBy_139 : decode cX5_belongsBy 139 = .ok (.iconst 1, 1) := by decide +kernel
theorem dX5_belongsBy_140 : decode cX5_belongsBy 140 = .ok (.goto 4, 3) := by decide +kernel
theorem dX5_belongsBy_143 : decode cX5_belongsBy 143 = .ok (.iconst 0, 1) := by decide +kernel
theorem dX5_belongsBy_144 : decode cX5_belongsBy 144 = .ok (.ireturn, 1) := by decide +kernel
theorem dX5_belongsBy_145 : decode cX5_belongsBy 145 = .ok (.iload 6, 2) := by decide +kernel
theorem dX5_belongsBy_147 : decode cX5_belongsBy 147 = .ok (.ireturn, 1) := by decide +kernel
theorem dX5_belongs_0 : decode cX5_belongs 0 = .ok (.bipush 10, 2) := by decide +kernel
theorem dX5_belongs_2 : decode cX5_belongs 2 = .ok (.iconst 5, 1) := by decide +kernel
theorem dX5_belongs_3 : decode cX5_belongs 3 = .ok (.iload_n 1, 1) := by decide +kernel
theorem dX5_belongs_4 : decode cX5_belongs 4 = .ok (.imul, 1) := by decide +kernel
theorem dX5_belongs_5 : decode cX5_belongs 5 = .ok (.iadd, 1) := by decide +kernel
theorem dX5_belongs_6 : decode cX5_belongs 6 = .ok (.istore 4, 2) := by decide +kernel
theorem dX5_belongs_8 : decode cX5_belongs 8 = .ok (.aload_n 0, 1) := by decide +kernel
theorem dX5_belongs_9 : decode cX5_belongs 9 = .ok (.aload_n 0, 1) := by decide +kernel
theorem dX5_belongs_10 : decode cX5_belongs 10 = .ok (.getfield 25, 3) := by decide +kernel
theorem dX5_belongs_13 : decode cX5_belongs 13 = .ok (.iload 4, 2) := by decide +kernel
theorem dX5_belongs_15 : decode cX5_belongs 15 = .ok (.iaload, 1) := by decide +kernel
theorem dX5_belongs_16 : decode cX5_belongs 16 = .ok (.aload_n 0, 1) := by decide +kernel
theorem dX5_belongs_17 : decode cX5_belongs 17 = .ok (.getfield 25, 3) := by decide +kernel
theorem dX5_belongs_20 : decode cX5_belongs 20 = .ok (.iload 4, 2) := by decide +kernel
theorem dX5_belongs_22 : decode cX5_belongs 22 = .ok (.iconst 1, 1) := by decide +kernel
theorem dX5_belongs_23 : decode cX5_belongs 23 = .ok (.iadd, 1) := by decide +kernel
theorem dX5_belongs_24 : decode cX5_belongs 24 = .ok (.iaload, 1) := by decide +kernel
theorem dX5_belongs_25 : decode cX5_belongs 25 = .ok (.aload_n 0, 1) := by decide +kernel
theorem dX5_belongs_26 : decode cX5_belongs 26 = .ok (.getfield 25, 3) := by decide +kernel
theorem dX5_belongs_29 : decode cX5_belongs 29 = .ok (.iload 4, 2) := by decide +kernel
theorem dX5_belongs_31 : decode cX5_belongs 31 = .ok (.iconst 2, 1) := by decide +kernel
theorem dX5_belongs_32 : decode cX5_belongs 32 = .ok (.iadd, 1) := by decide +kernel
theorem dX5_belongs_33 : decode cX5_belongs 33 = .ok (.iaload, 1) := by decide +kernel
theorem dX5_belongs_34 : decode cX5_belongs 34 = .ok (.iload_n 2, 1) := by decide +kernel
theorem dX5_belongs_35 : decode cX5_belongs 35 = .ok (.iload_n 3, 1) := by decide +kernel
theorem dX5_belongs_36 : decode cX5_belongs 36 = .ok (.invokevirtual 133, 3) := by decide +kernel
theorem dX5_belongs_39 : decode cX5_belongs 39 = .ok (.ireturn, 1) := by decide +kernel
theorem dX5_votesOf_0 : decode cX5_votesOf 0 = .ok (.aload_n 0, 1) := by decide +kernel
theorem dX5_votesOf_1 : decode cX5_votesOf 1 = .ok (.getfield 25, 3) := by decide +kernel
theorem dX5_votesOf_4 : decode cX5_votesOf 4 = .ok (.bipush 10, 2) := by decide +kernel
theorem dX5_votesOf_6 : decode cX5_votesOf 6 = .ok (.iconst 5, 1) := by decide +kernel
theorem dX5_votesOf_7 : decode cX5_votesOf 7 = .ok (.iload_n 1, 1) := by decide +kernel
theorem dX5_votesOf_8 : decode cX5_votesOf 8 = .ok (.imul, 1) := by decide +kernel
theorem dX5_votesOf_9 : decode cX5_votesOf 9 = .ok (.iadd, 1) := by decide +kernel
theorem dX5_votesOf_10 : decode cX5_votesOf 10 = .ok (.iconst 3, 1) := by decide +kernel
theorem dX5_votesOf_11 : decode cX5_votesOf 11 = .ok (.iadd, 1) := by decide +kernel
theorem dX5_votesOf_12 : decode cX5_votesOf 12 = .ok (.iaload, 1) := by decide +kernel
theorem dX5_votesOf_13 : decode cX5_votesOf 13 = .ok (.istore_n 2, 1) := by decide +kernel
theorem dX5_votesOf_14 : decode cX5_votesOf 14 = .ok (.aload_n 0, 1) := by decide +kernel
theorem dX5_votesOf_15 : decode cX5_votesOf 15 = .ok (.getfield 25, 3) := by decide +kernel
theorem dX5_votesOf_18 : decode cX5_votesOf 18 = .ok (.bipush 10, 2) := by decide +kernel
theorem dX5_votesOf_20 : decode cX5_votesOf 20 = .ok (.iconst 5, 1) := by decide +kernel
theorem dX5_votesOf_21 : decode cX5_votesOf 21 = .ok (.iload_n 1, 1) := by decide +kernel
theorem dX5_votesOf_22 : decode cX5_votesOf 22 = .ok (.imul, 1) := by decide +kernel
theorem dX5_votesOf_23 : decode cX5_votesOf 23 = .ok (.iadd, 1) := by decide +kernel
theorem dX5_votesOf_24 : decode cX5_votesOf 24 = .ok (.iaload, 1) := by decide +kernel
theorem dX5_votesOf_25 : decode cX5_votesOf 25 = .ok (.tableswitch 47 2 5 #[31, 45, 41, 35], 31) := by decide +kernel
theorem dX5_votesOf_56 : decode cX5_votesOf 56 = .ok (.iload_n 2, 1) := by decide +kernel
theorem dX5_votesOf_57 : decode cX5_votesOf 57 = .ok (.iconst 2, 1) := by decide +kernel
theorem dX5_votesOf_58 : decode cX5_votesOf 58 = .ok (.idiv, 1) := by decide +kernel
theorem dX5_votesOf_59 : decode cX5_votesOf 59 = .ok (.ireturn, 1) := by decide +kernel
theorem dX5_votesOf_60 : decode cX5_votesOf 60 = .ok (.iload_n 2, 1) := by decide +kernel
theorem dX5_votesOf_61 : decode cX5_votesOf 61 = .ok (.iconst 2, 1) := by decide +kernel
theorem dX5_votesOf_62 : decode cX5_votesOf 62 = .ok (.idiv, 1) := by decide +kernel
theorem dX5_votesOf_63 : decode cX5_votesOf 63 = .ok (.iconst 1, 1) := by decide +kernel
theorem dX5_votesOf_64 : decode cX5_votesOf 64 = .ok (.iadd, 1) := by decide +kernel
theorem dX5_votesOf_65 : decode cX5_votesOf 65 = .ok (.ireturn, 1) := by decide +kernel
theorem dX5_votesOf_66 : decode cX5_votesOf 66 = .ok (.iconst 2, 1) := by decide +kernel
theorem dX5_votesOf_67 : decode cX5_votesOf 67 = .ok (.iload_n 2, 1) := by decide +kernel
theorem dX5_votesOf_68 : decode cX5_votesOf 68 = .ok (.imul, 1) := by decide +kernel
theorem dX5_votesOf_69 : decode cX5_votesOf 69 = .ok (.ireturn, 1) := by decide +kernel
theorem dX5_votesOf_70 : decode cX5_votesOf 70 = .ok (.iconst 1, 1) := by decide +kernel
theorem dX5_votesOf_71 : decode cX5_votesOf 71 = .ok (.ireturn, 1) := by decide +kernel
theorem dX5_votesOf_72 : decode cX5_votesOf 72 = .ok (.iload_n 2, 1) := by decide +kernel
theorem dX5_votesOf_73 : decode cX5_votesOf 73 = .ok (.ireturn, 1) := by decide +kernel
theorem dX5_belongers_0 : decode cX5_belongers 0 = .ok (.iconst 0, 1) := by decide +kernel
theorem dX5_belongers_1 : decode cX5_belongers 1 = .ok (.istore_n 3, 1) := by decide +kernel
theorem dX5_belongers_2 : decode cX5_belongers 2 = .ok (.iconst 0, 1) := by decide +kernel
theorem dX5_belongers_3 : decode cX5_belongers 3 = .ok (.istore 4, 2) := by decide +kernel
theorem dX5_belongers_5 : decode cX5_belongers 5 = .ok (.iload 4, 2) := by decide +kernel
theorem dX5_belongers_7 : decode cX5_belongers 7 = .ok (.aload_n 0, 1) := by decide +kernel
theorem dX5_belongers_8 : decode cX5_belongers 8 = .ok (.getfield 25, 3) := by decide +kernel
theorem dX5_belongers_11 : decode cX5_belongers 11 = .ok (.bipush 7, 2) := by decide +kernel
theorem dX5_belongers_13 : decode cX5_belongers 13 = .ok (.iaload, 1) := by decide +kernel
theorem dX5_belongers_14 : decode cX5_belongers 14 = .ok (.if_icmp .ge 31, 3) := by decide +kernel
theorem dX5_belongers_17 : decode cX5_belongers 17 = .ok (.iload_n 3, 1) := by decide +kernel
theorem dX5_belongers_18 : decode cX5_belongers 18 = .ok (.aload_n 0, 1) := by decide +kernel
theorem dX5_belongers_19 : decode cX5_belongers 19 = .ok (.iload 4, 2) := by decide +kernel
theorem dX5_belongers_21 : decode cX5_belongers 21 = .ok (.iload_n 1, 1) := by decide +kernel
theorem dX5_belongers_22 : decode cX5_belongers 22 = .ok (.iload_n 2, 1) := by decide +kernel
theorem dX5_belongers_23 : decode cX5_belongers 23 = .ok (.invokevirtual 137, 3) := by decide +kernel
theorem dX5_belongers_26 : decode cX5_belongers 26 = .ok (.ifCond .eq 10, 3) := by decide +kernel
theorem dX5_belongers_29 : decode cX5_belongers 29 = .ok (.iconst 1, 1) := by decide +kernel
theorem dX5_belongers_30 : decode cX5_belongers 30 = .ok (.iload 4, 2) := by decide +kernel
theorem dX5_belongers_32 : decode cX5_belongers 32 = .ok (.ishl, 1) := by decide +kernel
theorem dX5_belongers_33 : decode cX5_belongers 33 = .ok (.goto 4, 3) := by decide +kernel
theorem dX5_belongers_36 : decode cX5_belongers 36 = .ok (.iconst 0, 1) := by decide +kernel
theorem dX5_belongers_37 : decode cX5_belongers 37 = .ok (.ior, 1) := by decide +kernel
theorem dX5_belongers_38 : decode cX5_belongers 38 = .ok (.istore_n 3, 1) := by decide +kernel
theorem dX5_belongers_39 : decode cX5_belongers 39 = .ok (.iinc 4 1, 3) := by decide +kernel
theorem dX5_belongers_42 : decode cX5_belongers 42 = .ok (.goto (-37), 3) := by decide +kernel
theorem dX5_belongers_45 : decode cX5_belongers 45 = .ok (.iload_n 3, 1) := by decide +kernel
theorem dX5_belongers_46 : decode cX5_belongers 46 = .ok (.ireturn, 1) := by decide +kernel
theorem dX5_belongersNow_0 : decode cX5_belongersNow 0 = .ok (.aload_n 0, 1) := by decide +kernel
theorem dX5_belongersNow_1 : decode cX5_belongersNow 1 = .ok (.aload_n 0, 1) := by decide +kernel
theorem dX5_belongersNow_2 : decode cX5_belongersNow 2 = .ok (.getfield 25, 3) := by decide +kernel
theorem dX5_belongersNow_5 : decode cX5_belongersNow 5 = .ok (.iconst 1, 1) := by decide +kernel
theorem dX5_belongersNow_6 : decode cX5_belongersNow 6 = .ok (.iaload, 1) := by decide +kernel
theorem dX5_belongersNow_7 : decode cX5_belongersNow 7 = .ok (.aload_n 0, 1) := by decide +kernel
theorem dX5_belongersNow_8 : decode cX5_belongersNow 8 = .ok (.getfield 25, 3) := by decide +kernel
theorem dX5_belongersNow_11 : decode cX5_belongersNow 11 = .ok (.iconst 2, 1) := by decide +kernel
theorem dX5_belongersNow_12 : decode cX5_belongersNow 12 = .ok (.iaload, 1) := by decide +kernel
theorem dX5_belongersNow_13 : decode cX5_belongersNow 13 = .ok (.invokevirtual 140, 3) := by decide +kernel
theorem dX5_belongersNow_16 : decode cX5_belongersNow 16 = .ok (.ireturn, 1) := by decide +kernel
theorem dX5_votesIn_0 : decode cX5_votesIn 0 = .ok (.iconst 0, 1) := by decide +kernel
theorem dX5_votesIn_1 : decode cX5_votesIn 1 = .ok (.istore_n 2, 1) := by decide +kernel
theorem dX5_votesIn_2 : decode cX5_votesIn 2 = .ok (.iconst 0, 1) := by decide +kernel
theorem dX5_votesIn_3 : decode cX5_votesIn 3 = .ok (.istore_n 3, 1) := by decide +kernel
theorem dX5_votesIn_4 : decode cX5_votesIn 4 = .ok (.iload_n 3, 1) := by decide +kernel
theorem dX5_votesIn_5 : decode cX5_votesIn 5 = .ok (.aload_n 0, 1) := by decide +kernel
theorem dX5_votesIn_6 : decode cX5_votesIn 6 = .ok (.getfield 25, 3) := by decide +kernel
theorem dX5_votesIn_9 : decode cX5_votesIn 9 = .ok (.bipush 7, 2) := by decide +kernel
theorem dX5_votesIn_11 : decode cX5_votesIn 11 = .ok (.iaload, 1) := by decide +kernel
theorem dX5_votesIn_12 : decode cX5_votesIn 12 = .ok (.if_icmp .ge 29, 3) := by decide +kernel
theorem dX5_votesIn_15 : decode cX5_votesIn 15 = .ok (.iload_n 2, 1) := by decide +kernel
theorem dX5_votesIn_16 : decode cX5_votesIn 16 = .ok (.iload_n 1, 1) := by decide +kernel
theorem dX5_votesIn_17 : decode cX5_votesIn 17 = .ok (.iload_n 3, 1) := by decide +kernel
theorem dX5_votesIn_18 : decode cX5_votesIn 18 = .ok (.invokestatic 143, 3) := by decide +kernel
theorem dX5_votesIn_21 : decode cX5_votesIn 21 = .ok (.ifCond .eq 11, 3) := by decide +kernel
theorem dX5_votesIn_24 : decode cX5_votesIn 24 = .ok (.aload_n 0, 1) := by decide +kernel
theorem dX5_votesIn_25 : decode cX5_votesIn 25 = .ok (.iload_n 3, 1) := by decide +kernel
theorem dX5_votesIn_26 : decode cX5_votesIn 26 = .ok (.invokevirtual 147, 3) := by decide +kernel
theorem dX5_votesIn_29 : decode cX5_votesIn 29 = .ok (.goto 4, 3) := by decide +kernel
theorem dX5_votesIn_32 : decode cX5_votesIn 32 = .ok (.iconst 0, 1) := by decide +kernel
theorem dX5_votesIn_33 : decode cX5_votesIn 33 = .ok (.iadd, 1) := by decide +kernel
theorem dX5_votesIn_34 : decode cX5_votesIn 34 = .ok (.istore_n 2, 1) := by decide +kernel
theorem dX5_votesIn_35 : decode cX5_votesIn 35 = .ok (.iinc 3 1, 3) := by decide +kernel
theorem dX5_votesIn_38 : decode cX5_votesIn 38 = .ok (.goto (-34), 3) := by decide +kernel
theorem dX5_votesIn_41 : decode cX5_votesIn 41 = .ok (.iload_n 2, 1) := by decide +kernel
theorem dX5_votesIn_42 : decode cX5_votesIn 42 = .ok (.ireturn, 1) := by decide +kernel
theorem dX5_votesOut_0 : decode cX5_votesOut 0 = .ok (.iconst 0, 1) := by decide +kernel
theorem dX5_votesOut_1 : decode cX5_votesOut 1 = .ok (.istore 5, 2) := by decide +kernel
theorem dX5_votesOut_3 : decode cX5_votesOut 3 = .ok (.iconst 0, 1) := by decide +kernel
theorem dX5_votesOut_4 : decode cX5_votesOut 4 = .ok (.istore 6, 2) := by decide +kernel
theorem dX5_votesOut_6 : decode cX5_votesOut 6 = .ok (.iload 6, 2) := by decide +kernel
theorem dX5_votesOut_8 : decode cX5_votesOut 8 = .ok (.aload_n 0, 1) := by decide +kernel
theorem dX5_votesOut_9 : decode cX5_votesOut 9 = .ok (.getfield 25, 3) := by decide +kernel
theorem dX5_votesOut_12 : decode cX5_votesOut 12 = .ok (.bipush 7, 2) := by decide +kernel
theorem dX5_votesOut_14 : decode cX5_votesOut 14 = .ok (.iaload, 1) := by decide +kernel
theorem dX5_votesOut_15 : decode cX5_votesOut 15 = .ok (.if_icmp .ge 58, 3) := by decide +kernel
theorem dX5_votesOut_18 : decode cX5_votesOut 18 = .ok (.iload 5, 2) := by decide +kernel
theorem dX5_votesOut_20 : decode cX5_votesOut 20 = .ok (.aload_n 0, 1) := by decide +kernel
theorem dX5_votesOut_21 : decode cX5_votesOut 21 = .ok (.getfield 25, 3) := by decide +kernel
theorem dX5_votesOut_24 : decode cX5_votesOut 24 = .ok (.bipush 10, 2) := by decide +kernel
theorem dX5_votesOut_26 : decode cX5_votesOut 26 = .ok (.iconst 5, 1) := by decide +kernel
theorem dX5_votesOut_27 : decode cX5_votesOut 27 = .ok (.iload 6, 2) := by decide +kernel
theorem dX5_votesOut_29 : decode cX5_votesOut 29 = .ok (.imul, 1) := by decide +kernel
theorem dX5_votesOut_30 : decode cX5_votesOut 30 = .ok (.iadd, 1) := by decide +kernel
theorem dX5_votesOut_31 : decode cX5_votesOut 31 = .ok (.iconst 1, 1) := by decide +kernel
theorem dX5_votesOut_32 : decode cX5_votesOut 32 = .ok (.iadd, 1) := by decide +kernel
theorem dX5_votesOut_33 : decode cX5_votesOut 33 = .ok (.iaload, 1) := by decide +kernel
theorem dX5_votesOut_34 : decode cX5_votesOut 34 = .ok (.iload_n 1, 1) := by decide +kernel
theorem dX5_votesOut_35 : decode cX5_votesOut 35 = .ok (.iload_n 2, 1) := by decide +kernel
theorem dX5_votesOut_36 : decode cX5_votesOut 36 = .ok (.invokestatic 73, 3) := by decide +kernel
theorem dX5_votesOut_39 : decode cX5_votesOut 39 = .ok (.ifCond .eq 24, 3) := by decide +kernel
theorem dX5_votesOut_42 : decode cX5_votesOut 42 = .ok (.aload_n 0, 1) := by decide +kernel
theorem dX5_votesOut_43 : decode cX5_votesOut 43 = .ok (.iload 6, 2) := by decide +kernel
theorem dX5_votesOut_45 : decode cX5_votesOut 45 = .ok (.iload_n 3, 1) := by decide +kernel
theorem dX5_votesOut_46 : decode cX5_votesOut 46 = .ok (.iload 4, 2) := by decide +kernel
theorem dX5_votesOut_48 : decode cX5_votesOut 48 = .ok (.invokevirtual 137, 3) := by decide +kernel
theorem dX5_votesOut_51 : decode cX5_votesOut 51 = .ok (.ifCond .ne 12, 3) := by decide +kernel
theorem dX5_votesOut_54 : decode cX5_votesOut 54 = .ok (.aload_n 0, 1) := by decide +kernel
theorem dX5_votesOut_55 : decode cX5_votesOut 55 = .ok (.iload 6, 2) := by decide +kernel
theorem dX5_votesOut_57 : decode cX5_votesOut 57 = .ok (.invokevirtual 147, 3) := by decide +kernel
theorem dX5_votesOut_60 : decode cX5_votesOut 60 = .ok (.goto 4, 3) := by decide +kernel
theorem dX5_votesOut_63 : decode cX5_votesOut 63 = .ok (.iconst 0, 1) := by decide +kernel
theorem dX5_votesOut_64 : decode cX5_votesOut 64 = .ok (.iadd, 1) := by decide +kernel
theorem dX5_votesOut_65 : decode cX5_votesOut 65 = .ok (.istore 5, 2) := by decide +kernel
theorem dX5_votesOut_67 : decode cX5_votesOut 67 = .ok (.iinc 6 1, 3) := by decide +kernel
theorem dX5_votesOut_70 : decode cX5_votesOut 70 = .ok (.goto (-64), 3) := by decide +kernel
theorem dX5_votesOut_73 : decode cX5_votesOut 73 = .ok (.iload 5, 2) := by decide +kernel
theorem dX5_votesOut_75 : decode cX5_votesOut 75 = .ok (.ireturn, 1) := by decide +kernel
theorem dX5_oneHas_0 : decode cX5_oneHas 0 = .ok (.bipush 10, 2) := by decide +kernel
theorem dX5_oneHas_2 : decode cX5_oneHas 2 = .ok (.iconst 5, 1) := by decide +kernel
theorem dX5_oneHas_3 : decode cX5_oneHas 3 = .ok (.iload_n 1, 1) := by decide +kernel
theorem dX5_oneHas_4 : decode cX5_oneHas 4 = .ok (.imul, 1) := by decide +kernel
theorem dX5_oneHas_5 : decode cX5_oneHas 5 = .ok (.iadd, 1) := by decide +kernel
theorem dX5_oneHas_6 : decode cX5_oneHas 6 = .ok (.istore_n 3, 1) := by decide +kernel
theorem dX5_oneHas_7 : decode cX5_oneHas 7 = .ok (.iload_n 2, 1) := by decide +kernel
theorem dX5_oneHas_8 : decode cX5_oneHas 8 = .ok (.tableswitch 69 3 5 #[28, 34, 43], 28) := by decide +kernel
theorem dX5_oneHas_36 : decode cX5_oneHas 36 = .ok (.aload_n 0, 1) := by decide +kernel
theorem dX5_oneHas_37 : decode cX5_oneHas 37 = .ok (.iload_n 1, 1) := by decide +kernel
theorem dX5_oneHas_38 : decode cX5_oneHas 38 = .ok (.invokevirtual 147, 3) := by decide +kernel
theorem dX5_oneHas_41 : decode cX5_oneHas 41 = .ok (.ireturn, 1) := by decide +kernel
theorem dX5_oneHas_42 : decode cX5_oneHas 42 = .ok (.aload_n 0, 1) := by decide +kernel
theorem dX5_oneHas_43 : decode cX5_oneHas 43 = .ok (.getfield 25, 3) := by decide +kernel
theorem dX5_oneHas_46 : decode cX5_oneHas 46 = .ok (.iload_n 3, 1) := by decide +kernel
theorem dX5_oneHas_47 : decode cX5_oneHas 47 = .ok (.iconst 4, 1) := by decide +kernel
theorem dX5_oneHas_48 : decode cX5_oneHas 48 = .ok (.iadd, 1) := by decide +kernel
theorem dX5_oneHas_49 : decode cX5_oneHas 49 = .ok (.iaload, 1) := by decide +kernel
theorem dX5_oneHas_50 : decode cX5_oneHas 50 = .ok (.ireturn, 1) := by decide +kernel
theorem dX5_oneHas_51 : decode cX5_oneHas 51 = .ok (.aload_n 0, 1) := by decide +kernel
theorem dX5_oneHas_52 : decode cX5_oneHas 52 = .ok (.iload_n 1, 1) := by decide +kernel
theorem dX5_oneHas_53 : decode cX5_oneHas 53 = .ok (.aload_n 0, 1) := by decide +kernel
theorem dX5_oneHas_54 : decode cX5_oneHas 54 = .ok (.getfield 25, 3) := by decide +kernel
theorem dX5_oneHas_57 : decode cX5_oneHas 57 = .ok (.iconst 1, 1) := by decide +kernel
theorem dX5_oneHas_58 : decode cX5_oneHas 58 = .ok (.iaload, 1) := by decide +kernel
theorem dX5_oneHas_59 : decode cX5_oneHas 59 = .ok (.aload_n 0, 1) := by decide +kernel
theorem dX5_oneHas_60 : decode cX5_oneHas 60 = .ok (.getfield 25, 3) := by decide +kernel
theorem dX5_oneHas_63 : decode cX5_oneHas 63 = .ok (.iconst 2, 1) := by decide +kernel
theorem dX5_oneHas_64 : decode cX5_oneHas 64 = .ok (.iaload, 1) := by decide +kernel
theorem dX5_oneHas_65 : decode cX5_oneHas 65 = .ok (.invokevirtual 137, 3) := by decide +kernel
theorem dX5_oneHas_68 : decode cX5_oneHas 68 = .ok (.ifCond .eq 7, 3) := by decide +kernel
theorem dX5_oneHas_71 : decode cX5_oneHas 71 = .ok (.iconst 1, 1) := by decide +kernel
theorem dX5_oneHas_72 : decode cX5_oneHas 72 = .ok (.goto 4, 3) := by decide +kernel
theorem dX5_oneHas_75 : decode cX5_oneHas 75 = .ok (.iconst 0, 1) := by decide +kernel
theorem dX5_oneHas_76 : decode cX5_oneHas 76 = .ok (.ireturn, 1) := by decide +kernel
theorem dX5_oneHas_77 : decode cX5_oneHas 77 = .ok (.aload_n 0, 1) := by decide +kernel
theorem dX5_oneHas_78 : decode cX5_oneHas 78 = .ok (.getfield 25, 3) := by decide +kernel
theorem dX5_oneHas_81 : decode cX5_oneHas 81 = .ok (.iload_n 3, 1) := by decide +kernel
theorem dX5_oneHas_82 : decode cX5_oneHas 82 = .ok (.iload_n 2, 1) := by decide +kernel
theorem dX5_oneHas_83 : decode cX5_oneHas 83 = .ok (.iadd, 1) := by decide +kernel
theorem dX5_oneHas_84 : decode cX5_oneHas 84 = .ok (.iaload, 1) := by decide +kernel
theorem dX5_oneHas_85 : decode cX5_oneHas 85 = .ok (.ireturn, 1) := by decide +kernel
theorem dX5_one_0 : decode cX5_one 0 = .ok (.aload_n 0, 1) := by decide +kernel
theorem dX5_one_1 : decode cX5_one 1 = .ok (.iload_n 1, 1) := by decide +kernel
theorem dX5_one_2 : decode cX5_one 2 = .ok (.invokevirtual 150, 3) := by decide +kernel
theorem dX5_one_5 : decode cX5_one 5 = .ok (.ifCond .eq 26, 3) := by decide +kernel
theorem dX5_one_8 : decode cX5_one 8 = .ok (.iload_n 2, 1) := by decide +kernel
theorem dX5_one_9 : decode cX5_one 9 = .ok (.iconst 0, 1) := by decide +kernel
theorem dX5_one_10 : decode cX5_one 10 = .ok (.iconst 5, 1) := by decide +kernel
theorem dX5_one_11 : decode cX5_one 11 = .ok (.invokestatic 73, 3) := by decide +kernel
theorem dX5_one_14 : decode cX5_one 14 = .ok (.ifCond .eq 17, 3) := by decide +kernel
theorem dX5_one_17 : decode cX5_one 17 = .ok (.aload_n 0, 1) := by decide +kernel
theorem dX5_one_18 : decode cX5_one 18 = .ok (.iconst 1, 1) := by decide +kernel
theorem dX5_one_19 : decode cX5_one 19 = .ok (.aload_n 0, 1) := by decide +kernel
theorem dX5_one_20 : decode cX5_one 20 = .ok (.iload_n 1, 1) := by decide +kernel
theorem dX5_one_21 : decode cX5_one 21 = .ok (.iload_n 2, 1) := by decide +kernel
theorem dX5_one_22 : decode cX5_one 22 = .ok (.invokevirtual 153, 3) := by decide +kernel
theorem dX5_one_25 : decode cX5_one 25 = .ok (.invokevirtual 93, 3) := by decide +kernel
theorem dX5_one_28 : decode cX5_one 28 = .ok (.goto 4, 3) := by decide +kernel
theorem dX5_one_31 : decode cX5_one 31 = .ok (.iconst (-1), 1) := by decide +kernel
theorem dX5_one_32 : decode cX5_one 32 = .ok (.ireturn, 1) := by decide +kernel
theorem dX5_distance_0 : decode cX5_distance 0 = .ok (.aload_n 0, 1) := by decide +kernel
theorem dX5_distance_1 : decode cX5_distance 1 = .ok (.getfield 25, 3) := by decide +kernel
theorem dX5_distance_4 : decode cX5_distance 4 = .ok (.iconst 1, 1) := by decide +kernel
theorem dX5_distance_5 : decode cX5_distance 5 = .ok (.iaload, 1) := by decide +kernel
theorem dX5_distance_6 : decode cX5_distance 6 = .ok (.istore_n 2, 1) := by decide +kernel
theorem dX5_distance_7 : decode cX5_distance 7 = .ok (.aload_n 0, 1) := by decide +kernel
theorem dX5_distance_8 : decode cX5_distance 8 = .ok (.getfield 25, 3) := by decide +kernel
theorem dX5_distance_11 : decode cX5_distance 11 = .ok (.iconst 2, 1) := by decide +kernel
theorem dX5_distance_12 : decode cX5_distance 12 = .ok (.iaload, 1) := by decide +kernel
theorem dX5_distance_13 : decode cX5_distance 13 = .ok (.istore_n 3, 1) := by decide +kernel
theorem dX5_distance_14 : decode cX5_distance 14 = .ok (.iload_n 2, 1) := by decide +kernel
theorem dX5_distance_15 : decode cX5_distance 15 = .ok (.iload_n 3, 1) := by decide +kernel
theorem dX5_distance_16 : decode cX5_distance 16 = .ok (.if_icmp .ne 9, 3) := by decide +kernel
theorem dX5_distance_19 : decode cX5_distance 19 = .ok (.iload_n 1, 1) := by decide +kernel
theorem dX5_distance_20 : decode cX5_distance 20 = .ok (.iload_n 2, 1) := by decide +kernel
theorem dX5_distance_21 : decode cX5_distance 21 = .ok (.invokestatic 156, 3) := by decide +kernel
theorem dX5_distance_24 : decode cX5_distance 24 = .ok (.ireturn, 1) := by decide +kernel
theorem dX5_distance_25 : decode cX5_distance 25 = .ok (.iload_n 1, 1) := by decide +kernel
theorem dX5_distance_26 : decode cX5_distance 26 = .ok (.iload_n 2, 1) := by decide +kernel
theorem dX5_distance_27 : decode cX5_distance 27 = .ok (.if_icmp .ge 9, 3) := by decide +kernel
theorem dX5_distance_30 : decode cX5_distance 30 = .ok (.iload_n 2, 1) := by decide +kernel
theorem dX5_distance_31 : decode cX5_distance 31 = .ok (.iload_n 1, 1) := by decide +kernel
theorem dX5_distance_32 : decode cX5_distance 32 = .ok (.isub, 1) := by decide +kernel
theorem dX5_distance_33 : decode cX5_distance 33 = .ok (.goto 17, 3) := by decide +kernel
theorem dX5_distance_36 : decode cX5_distance 36 = .ok (.iload_n 1, 1) := by decide +kernel
theorem dX5_distance_37 : decode cX5_distance 37 = .ok (.iload_n 3, 1) := by decide +kernel
theorem dX5_distance_38 : decode cX5_distance 38 = .ok (.if_icmp .lt 11, 3) := by decide +kernel
theorem dX5_distance_41 : decode cX5_distance 41 = .ok (.iload_n 1, 1) := by decide +kernel
theorem dX5_distance_42 : decode cX5_distance 42 = .ok (.iload_n 3, 1) := by decide +kernel
theorem dX5_distance_43 : decode cX5_distance 43 = .ok (.isub, 1) := by decide +kernel
theorem dX5_distance_44 : decode cX5_distance 44 = .ok (.iconst 1, 1) := by decide +kernel
theorem dX5_distance_45 : decode cX5_distance 45 = .ok (.iadd, 1) := by decide +kernel
theorem dX5_distance_46 : decode cX5_distance 46 = .ok (.goto 4, 3) := by decide +kernel
theorem dX5_distance_49 : decode cX5_distance 49 = .ok (.iconst 0, 1) := by decide +kernel
theorem dX5_distance_50 : decode cX5_distance 50 = .ok (.ireturn, 1) := by decide +kernel
theorem dX5_mark_0 : decode cX5_mark 0 = .ok (.aload_n 0, 1) := by decide +kernel
theorem dX5_mark_1 : decode cX5_mark 1 = .ok (.iload_n 1, 1) := by decide +kernel
theorem dX5_mark_2 : decode cX5_mark 2 = .ok (.invokevirtual 150, 3) := by decide +kernel
theorem dX5_mark_5 : decode cX5_mark 5 = .ok (.ifCond .eq 12, 3) := by decide +kernel
theorem dX5_mark_8 : decode cX5_mark 8 = .ok (.iload_n 2, 1) := by decide +kernel
theorem dX5_mark_9 : decode cX5_mark 9 = .ok (.iconst 1, 1) := by decide +kernel
theorem dX5_mark_10 : decode cX5_mark 10 = .ok (.iconst 5, 1) := by decide +kernel
theorem dX5_mark_11 : decode cX5_mark 11 = .ok (.invokestatic 73, 3) := by decide +kernel
theorem dX5_mark_14 : decode cX5_mark 14 = .ok (.ifCond .ne 5, 3) := by decide +kernel
theorem dX5_mark_17 : decode cX5_mark 17 = .ok (.iconst (-1), 1) := by decide +kernel
theorem dX5_mark_18 : decode cX5_mark 18 = .ok (.ireturn, 1) := by decide +kernel
theorem dX5_mark_19 : decode cX5_mark 19 = .ok (.bipush 10, 2) := by decide +kernel
theorem dX5_mark_21 : decode cX5_mark 21 = .ok (.iconst 5, 1) := by decide +kernel
theorem dX5_mark_22 : decode cX5_mark 22 = .ok (.iload_n 1, 1) := by decide +kernel
theorem dX5_mark_23 : decode cX5_mark 23 = .ok (.imul, 1) := by decide +kernel
theorem dX5_mark_24 : decode cX5_mark 24 = .ok (.iadd, 1) := by decide +kernel
theorem dX5_mark_25 : decode cX5_mark 25 = .ok (.istore_n 3, 1) := by decide +kernel
theorem dX5_mark_26 : decode cX5_mark 26 = .ok (.aload_n 0, 1) := by decide +kernel
theorem dX5_mark_27 : decode cX5_mark 27 = .ok (.getfield 25, 3) := by decide +kernel
theorem dX5_mark_30 : decode cX5_mark 30 = .ok (.iload_n 3, 1) := by decide +kernel
theorem dX5_mark_31 : decode cX5_mark 31 = .ok (.iaload, 1) := by decide +kernel
theorem dX5_mark_32 : decode cX5_mark 32 = .ok (.iload_n 2, 1) := by decide +kernel
theorem dX5_mark_33 : decode cX5_mark 33 = .ok (.invokestatic 159, 3) := by decide +kernel
theorem dX5_mark_36 : decode cX5_mark 36 = .ok (.ifCond .ne 9, 3) := by decide +kernel
theorem dX5_mark_39 : decode cX5_mark 39 = .ok (.aload_n 0, 1) := by decide +kernel
theorem dX5_mark_40 : decode cX5_mark 40 = .ok (.iconst 3, 1) := by decide +kernel
theorem dX5_mark_41 : decode cX5_mark 41 = .ok (.invokevirtual 81, 3) := by decide +kernel
theorem dX5_mark_44 : decode cX5_mark 44 = .ok (.ireturn, 1) := by decide +kernel
theorem dX5_mark_45 : decode cX5_mark 45 = .ok (.iconst 0, 1) := by decide +kernel
theorem dX5_mark_46 : decode cX5_mark 46 = .ok (.istore 4, 2) := by decide +kernel
theorem dX5_mark_48 : decode cX5_mark 48 = .ok (.aload_n 0, 1) := by decide +kernel
theorem dX5_mark_49 : decode cX5_mark 49 = .ok (.getfield 25, 3) := by decide +kernel
theorem dX5_mark_52 : decode cX5_mark 52 = .ok (.iconst 2, 1) := by decide +kernel
theorem dX5_mark_53 : decode cX5_mark 53 = .ok (.iaload, 1) := by decide +kernel
theorem dX5_mark_54 : decode cX5_mark 54 = .ok (.aload_n 0, 1) := by decide +kernel
theorem dX5_mark_55 : decode cX5_mark 55 = .ok (.getfield 25, 3) := by decide +kernel
theorem dX5_mark_58 : decode cX5_mark 58 = .ok (.iconst 1, 1) := by decide +kernel
theorem dX5_mark_59 : decode cX5_mark 59 = .ok (.iaload, 1) := by decide +kernel
theorem dX5_mark_60 : decode cX5_mark 60 = .ok (.isub, 1) := by decide +kernel
theorem dX5_mark_61 : decode cX5_mark 61 = .ok (.istore 5, 2) := by decide +kernel
theorem dX5_mark_63 : decode cX5_mark 63 = .ok (.iload_n 2, 1) := by decide +kernel
theorem dX5_mark_64 : decode cX5_mark 64 = .ok (.tableswitch 150 1 4 #[32, 57, 70, 85], 32) := by decide +kernel
theorem dX5_mark_96 : decode cX5_mark 96 = .ok (.aload_n 0, 1) := by decide +kernel
theorem dX5_mark_97 : decode cX5_mark 97 = .ok (.getfield 25, 3) := by decide +kernel
theorem dX5_mark_100 : decode cX5_mark 100 = .ok (.iload_n 3, 1) := by decide +kernel
theorem dX5_mark_101 : decode cX5_mark 101 = .ok (.iconst 1, 1) := by decide +kernel
theorem dX5_mark_102 : decode cX5_mark 102 = .ok (.iadd, 1) := by decide +kernel
theorem dX5_mark_103 : decode cX5_mark 103 = .ok (.iaload, 1) := by decide +kernel
theorem dX5_mark_104 : decode cX5_mark 104 = .ok (.aload_n 0, 1) := by decide +kernel
theorem dX5_mark_105 : decode cX5_mark 105 = .ok (.getfield 25, 3) := by decide +kernel
theorem dX5_mark_108 : decode cX5_mark 108 = .ok (.iload_n 3, 1) := by decide +kernel
theorem dX5_mark_109 : decode cX5_mark 109 = .ok (.iconst 2, 1) := by decide +kernel
theorem dX5_mark_110 : decode cX5_mark 110 = .ok (.iadd, 1) := by decide +kernel
theorem dX5_mark_111 : decode cX5_mark 111 = .ok (.iaload, 1) := by decide +kernel
theorem dX5_mark_112 : decode cX5_mark 112 = .ok (.if_icmp .ne 7, 3) := by decide +kernel
theorem dX5_mark_115 : decode cX5_mark 115 = .ok (.iconst 0, 1) := by decide +kernel
theorem dX5_mark_116 : decode cX5_mark 116 = .ok (.goto 4, 3) := by decide +kernel
theorem dX5_mark_119 : decode cX5_mark 119 = .ok (.iconst 1, 1) := by decide +kernel
theorem dX5_mark_120 : decode cX5_mark 120 = .ok (.ireturn, 1) := by decide +kernel
theorem dX5_mark_121 : decode cX5_mark 121 = .ok (.aload_n 0, 1) := by decide +kernel
theorem dX5_mark_122 : decode cX5_mark 122 = .ok (.aload_n 0, 1) := by decide +kernel
theorem dX5_mark_123 : decode cX5_mark 123 = .ok (.getfield 25, 3) := by decide +kernel
theorem dX5_mark_126 : decode cX5_mark 126 = .ok (.iload_n 3, 1) := by decide +kernel
theorem dX5_mark_127 : decode cX5_mark 127 = .ok (.iconst 1, 1) := by decide +kernel
theorem dX5_mark_128 : decode cX5_mark 128 = .ok (.iadd, 1) := by decide +kernel
theorem dX5_mark_129 : decode cX5_mark 129 = .ok (.iaload, 1) := by decide +kernel
theorem dX5_mark_130 : decode cX5_mark 130 = .ok (.invokevirtual 162, 3) := by decide +kernel
theorem dX5_mark_133 : decode cX5_mark 133 = .ok (.ireturn, 1) := by decide +kernel
theorem dX5_mark_134 : decode cX5_mark 134 = .ok (.iload 5, 2) := by decide +kernel
theorem dX5_mark_136 : decode cX5_mark 136 = .ok (.iconst 3, 1) := by decide +kernel
theorem dX5_mark_137 : decode cX5_mark 137 = .ok (.if_icmp .ge 10, 3) := by decide +kernel
theorem dX5_mark_140 : decode cX5_mark 140 = .ok (.iconst 3, 1) := by decide +kernel
theorem dX5_mark_141 : decode cX5_mark 141 = .ok (.iload 5, 2) := by decide +kernel
theorem dX5_mark_143 : decode cX5_mark 143 = .ok (.isub, 1) := by decide +kernel
theorem dX5_mark_144 : decode cX5_mark 144 = .ok (.goto 4, 3) := by decide +kernel
theorem dX5_mark_147 : decode cX5_mark 147 = .ok (.iconst 0, 1) := by decide +kernel
theorem dX5_mark_148 : decode cX5_mark 148 = .ok (.ireturn, 1) := by decide +kernel
theorem dX5_mark_149 : decode cX5_mark 149 = .ok (.iconst 0, 1) := by decide +kernel
theorem dX5_mark_150 : decode cX5_mark 150 = .ok (.istore 6, 2) := by decide +kernel
theorem dX5_mark_152 : decode cX5_mark 152 = .ok (.iload 6, 2) := by decide +kernel
theorem dX5_mark_154 : decode cX5_mark 154 = .ok (.aload_n 0, 1) := by decide +kernel
theorem dX5_mark_155 : decode cX5_mark 155 = .ok (.getfield 25, 3) := by decide +kernel
theorem dX5_mark_158 : decode cX5_mark 158 = .ok (.bipush 7, 2) := by decide +kernel
theorem dX5_mark_160 : decode cX5_mark 160 = .ok (.iaload, 1) := by decide +kernel
theorem dX5_mark_161 : decode cX5_mark 161 = .ok (.if_icmp .ge 50, 3) := by decide +kernel
theorem dX5_mark_164 : decode cX5_mark 164 = .ok (.iload 4, 2) := by decide +kernel
theorem dX5_mark_166 : decode cX5_mark 166 = .ok (.iload 6, 2) := by decide +kernel
theorem dX5_mark_168 : decode cX5_mark 168 = .ok (.iload_n 1, 1) := by decide +kernel
theorem dX5_mark_169 : decode cX5_mark 169 = .ok (.if_icmp .eq 32, 3) := by decide +kernel
theorem dX5_mark_172 : decode cX5_mark 172 = .ok (.aload_n 0, 1) := by decide +kernel
theorem dX5_mark_173 : decode cX5_mark 173 = .ok (.getfield 25, 3) := by decide +kernel
theorem dX5_mark_176 : decode cX5_mark 176 = .ok (.bipush 10, 2) := by decide +kernel
theorem dX5_mark_178 : decode cX5_mark 178 = .ok (.iconst 5, 1) := by decide +kernel
theorem dX5_mark_179 : decode cX5_mark 179 = .ok (.iload 6, 2) := by decide +kernel
theorem dX5_mark_181 : decode cX5_mark 181 = .ok (.imul, 1) := by decide +kernel
theorem dX5_mark_182 : decode cX5_mark 182 = .ok (.iadd, 1) := by decide +kernel
theorem dX5_mark_183 : decode cX5_mark 183 = .ok (.iconst 1, 1) := by decide +kernel
theorem dX5_mark_184 : decode cX5_mark 184 = .ok (.iadd, 1) := by decide +kernel
theorem dX5_mark_185 : decode cX5_mark 185 = .ok (.iaload, 1) := by decide +kernel
theorem dX5_mark_186 : decode cX5_mark 186 = .ok (.aload_n 0, 1) := by decide +kernel
theorem dX5_mark_187 : decode cX5_mark 187 = .ok (.getfield 25, 3) := by decide +kernel
theorem dX5_mark_190 : decode cX5_mark 190 = .ok (.iload_n 3, 1) := by decide +kernel
theorem dX5_mark_191 : decode cX5_mark 191 = .ok (.iconst 1, 1) := by decide +kernel
theorem dX5_mark_192 : decode cX5_mark 192 = .ok (.iadd, 1) := by decide +kernel
theorem dX5_mark_193 : decode cX5_mark 193 = .ok (.iaload, 1) := by decide +kernel
theorem dX5_mark_194 : decode cX5_mark 194 = .ok (.if_icmp .ne 7, 3) := by decide +kernel
theorem dX5_mark_197 : decode cX5_mark 197 = .ok (.iconst 1, 1) := by decide +kernel
theorem dX5_mark_198 : decode cX5_mark 198 = .ok (.goto 4, 3) := by decide +kernel
theorem dX5_mark_201 : decode cX5_mark 201 = .ok (.iconst 0, 1) := by decide +kernel
theorem dX5_mark_202 : decode cX5_mark 202 = .ok (.iadd, 1) := by decide +kernel
theorem dX5_mark_203 : decode cX5_mark 203 = .ok (.istore 4, 2) := by decide +kernel
theorem dX5_mark_205 : decode cX5_mark 205 = .ok (.iinc 6 1, 3) := by decide +kernel
theorem dX5_mark_208 : decode cX5_mark 208 = .ok (.goto (-56), 3) := by decide +kernel
theorem dX5_mark_211 : decode cX5_mark 211 = .ok (.iload 4, 2) := by decide +kernel
theorem dX5_mark_213 : decode cX5_mark 213 = .ok (.ireturn, 1) := by decide +kernel
theorem dX5_mark_214 : decode cX5_mark 214 = .ok (.aload_n 0, 1) := by decide +kernel
theorem dX5_mark_215 : decode cX5_mark 215 = .ok (.getfield 25, 3) := by decide +kernel
theorem dX5_mark_218 : decode cX5_mark 218 = .ok (.iload_n 3, 1) := by decide +kernel
theorem dX5_mark_219 : decode cX5_mark 219 = .ok (.iconst 1, 1) := by decide +kernel
theorem dX5_mark_220 : decode cX5_mark 220 = .ok (.iadd, 1) := by decide +kernel
theorem dX5_mark_221 : decode cX5_mark 221 = .ok (.iaload, 1) := by decide +kernel
theorem dX5_mark_222 : decode cX5_mark 222 = .ok (.aload_n 0, 1) := by decide +kernel
theorem dX5_mark_223 : decode cX5_mark 223 = .ok (.getfield 25, 3) := by decide +kernel
theorem dX5_mark_226 : decode cX5_mark 226 = .ok (.iconst 1, 1) := by decide +kernel
theorem dX5_mark_227 : decode cX5_mark 227 = .ok (.iaload, 1) := by decide +kernel
theorem dX5_mark_228 : decode cX5_mark 228 = .ok (.aload_n 0, 1) := by decide +kernel
theorem dX5_mark_229 : decode cX5_mark 229 = .ok (.getfield 25, 3) := by decide +kernel
theorem dX5_mark_232 : decode cX5_mark 232 = .ok (.iconst 2, 1) := by decide +kernel
theorem dX5_mark_233 : decode cX5_mark 233 = .ok (.iaload, 1) := by decide +kernel
theorem dX5_mark_234 : decode cX5_mark 234 = .ok (.iadd, 1) := by decide +kernel
theorem dX5_mark_235 : decode cX5_mark 235 = .ok (.iconst 2, 1) := by decide +kernel
theorem dX5_mark_236 : decode cX5_mark 236 = .ok (.idiv, 1) := by decide +kernel
theorem dX5_mark_237 : decode cX5_mark 237 = .ok (.invokestatic 156, 3) := by decide +kernel
theorem dX5_mark_240 : decode cX5_mark 240 = .ok (.ireturn, 1) := by decide +kernel
theorem dX5_coastHas_0 : decode cX5_coastHas 0 = .ok (.aload_n 0, 1) := by decide +kernel
theorem dX5_coastHas_1 : decode cX5_coastHas 1 = .ok (.getfield 25, 3) := by decide +kernel
theorem dX5_coastHas_4 : decode cX5_coastHas 4 = .ok (.iconst 1, 1) := by decide +kernel
theorem dX5_coastHas_5 : decode cX5_coastHas 5 = .ok (.iaload, 1) := by decide +kernel
theorem dX5_coastHas_6 : decode cX5_coastHas 6 = .ok (.istore_n 2, 1) := by decide +kernel
theorem dX5_coastHas_7 : decode cX5_coastHas 7 = .ok (.aload_n 0, 1) := by decide +kernel
theorem dX5_coastHas_8 : decode cX5_coastHas 8 = .ok (.getfield 25, 3) := by decide +kernel
theorem dX5_coastHas_11 : decode cX5_coastHas 11 = .ok (.iconst 2, 1) := by decide +kernel
theorem dX5_coastHas_12 : decode cX5_coastHas 12 = .ok (.iaload, 1) := by decide +kernel
theorem dX5_coastHas_13 : decode cX5_coastHas 13 = .ok (.istore_n 3, 1) := by decide +kernel
theorem dX5_coastHas_14 : decode cX5_coastHas 14 = .ok (.iload_n 1, 1) := by decide +kernel
theorem dX5_coastHas_15 : decode cX5_coastHas 15 = .ok (.tableswitch 61 0 4 #[33, 35, 37, 41, 50], 33) := by decide +kernel
theorem dX5_coastHas_48 : decode cX5_coastHas 48 = .ok (.iload_n 2, 1) := by decide +kernel
theorem dX5_coastHas_49 : decode cX5_coastHas 49 = .ok (.ireturn, 1) := by decide +kernel
theorem dX5_coastHas_50 : decode cX5_coastHas 50 = .ok (.iload_n 3, 1) := by decide +kernel
theorem dX5_coastHas_51 : decode cX5_coastHas 51 = .ok (.ireturn, 1) := by decide +kernel
theorem dX5_coastHas_52 : decode cX5_coastHas 52 = .ok (.iload_n 3, 1) := by decide +kernel
theorem dX5_coastHas_53 : decode cX5_coastHas 53 = .ok (.iload_n 2, 1) := by decide +kernel
theorem dX5_coastHas_54 : decode cX5_coastHas 54 = .ok (.isub, 1) := by decide +kernel
theorem dX5_coastHas_55 : decode cX5_coastHas 55 = .ok (.ireturn, 1) := by decide +kernel
theorem dX5_coastHas_56 : decode cX5_coastHas 56 = .ok (.aload_n 0, 1) := by decide +kernel
theorem dX5_coastHas_57 : decode cX5_coastHas 57 = .ok (.aload_n 0, 1) := by decide +kernel
theorem dX5_coastHas_58 : decode cX5_coastHas 58 = .ok (.invokevirtual 165, 3) := by decide +kernel
theorem dX5_coastHas_61 : decode cX5_coastHas 61 = .ok (.invokevirtual 169, 3) := by decide +kernel
theorem dX5_coastHas_64 : decode cX5_coastHas 64 = .ok (.ireturn, 1) := by decide +kernel
theorem dX5_coastHas_65 : decode cX5_coastHas 65 = .ok (.aload_n 0, 1) := by decide +kernel
theorem dX5_coastHas_66 : decode cX5_coastHas 66 = .ok (.iconst 0, 1) := by decide +kernel
theorem dX5_coastHas_67 : decode cX5_coastHas 67 = .ok (.iload_n 2, 1) := by decide +kernel
theorem dX5_coastHas_68 : decode cX5_coastHas 68 = .ok (.iconst 1, 1) := by decide +kernel
theorem dX5_coastHas_69 : decode cX5_coastHas 69 = .ok (.isub, 1) := by decide +kernel
theorem dX5_coastHas_70 : decode cX5_coastHas 70 = .ok (.iload_n 2, 1) := by decide +kernel
theorem dX5_coastHas_71 : decode cX5_coastHas 71 = .ok (.iload_n 3, 1) := by decide +kernel
theorem dX5_coastHas_72 : decode cX5_coastHas 72 = .ok (.invokevirtual 172, 3) := by decide +kernel
theorem dX5_coastHas_75 : decode cX5_coastHas 75 = .ok (.ireturn, 1) := by decide +kernel
theorem dX5_coastHas_76 : decode cX5_coastHas 76 = .ok (.aload_n 0, 1) := by decide +kernel
theorem dX5_coastHas_77 : decode cX5_coastHas 77 = .ok (.iload_n 3, 1) := by decide +kernel
theorem dX5_coastHas_78 : decode cX5_coastHas 78 = .ok (.aload_n 0, 1) := by decide +kernel
theorem dX5_coastHas_79 : decode cX5_coastHas 79 = .ok (.getfield 25, 3) := by decide +kernel
theorem dX5_coastHas_82 : decode cX5_coastHas 82 = .ok (.iconst 0, 1) := by decide +kernel
theorem dX5_coastHas_83 : decode cX5_coastHas 83 = .ok (.iaload, 1) := by decide +kernel
theorem dX5_coastHas_84 : decode cX5_coastHas 84 = .ok (.iconst 1, 1) := by decide +kernel
theorem dX5_coastHas_85 : decode cX5_coastHas 85 = .ok (.isub, 1) := by decide +kernel
theorem dX5_coastHas_86 : decode cX5_coastHas 86 = .ok (.iload_n 2, 1) := by decide +kernel
theorem dX5_coastHas_87 : decode cX5_coastHas 87 = .ok (.iload_n 3, 1) := by decide +kernel
theorem dX5_coastHas_88 : decode cX5_coastHas 88 = .ok (.invokevirtual 172, 3) := by decide +kernel
theorem dX5_coastHas_91 : decode cX5_coastHas 91 = .ok (.ireturn, 1) := by decide +kernel
theorem dX5_coast_0 : decode cX5_coast 0 = .ok (.iload_n 1, 1) := by decide +kernel
theorem dX5_coast_1 : decode cX5_coast 1 = .ok (.iconst 0, 1) := by decide +kernel
theorem dX5_coast_2 : decode cX5_coast 2 = .ok (.iconst 5, 1) := by decide +kernel
theorem dX5_coast_3 : decode cX5_coast 3 = .ok (.invokestatic 73, 3) := by decide +kernel
theorem dX5_coast_6 : decode cX5_coast 6 = .ok (.ifCond .ne 5, 3) := by decide +kernel
theorem dX5_coast_9 : decode cX5_coast 9 = .ok (.iconst (-1), 1) := by decide +kernel
theorem dX5_coast_10 : decode cX5_coast 10 = .ok (.ireturn, 1) := by decide +kernel
theorem dX5_coast_11 : decode cX5_coast 11 = .ok (.aload_n 0, 1) := by decide +kernel
theorem dX5_coast_12 : decode cX5_coast 12 = .ok (.invokevirtual 176, 3) := by decide +kernel
theorem dX5_coast_15 : decode cX5_coast 15 = .ok (.ifCond .eq 11, 3) := by decide +kernel
theorem dX5_coast_18 : decode cX5_coast 18 = .ok (.aload_n 0, 1) := by decide +kernel
theorem dX5_coast_19 : decode cX5_coast 19 = .ok (.iload_n 1, 1) := by decide +kernel
theorem dX5_coast_20 : decode cX5_coast 20 = .ok (.invokevirtual 180, 3) := by decide +kernel
theorem dX5_coast_23 : decode cX5_coast 23 = .ok (.goto 5, 3) := by decide +kernel
theorem dX5_coast_26 : decode cX5_coast 26 = .ok (.bipush (-4), 2) := by decide +kernel
theorem dX5_coast_28 : decode cX5_coast 28 = .ok (.ireturn, 1) := by decide +kernel
theorem dX5_notes_0 : decode cX5_notes 0 = .ok (.bipush 40, 2) := by decide +kernel
theorem dX5_notes_2 : decode cX5_notes 2 = .ok (.bipush 9, 2) := by decide +kernel
theorem dX5_notes_4 : decode cX5_notes 4 = .ok (.aload_n 0, 1) := by decide +kernel
theorem dX5_notes_5 : decode cX5_notes 5 = .ok (.getfield 25, 3) := by decide +kernel
theorem dX5_notes_8 : decode cX5_notes 8 = .ok (.bipush 9, 2) := by decide +kernel
theorem dX5_notes_10 : decode cX5_notes 10 = .ok (.iaload, 1) := by decide +kernel
theorem dX5_notes_11 : decode cX5_notes 11 = .ok (.imul, 1) := by decide +kernel
theorem dX5_notes_12 : decode cX5_notes 12 = .ok (.iadd, 1) := by decide +kernel
theorem dX5_notes_13 : decode cX5_notes 13 = .ok (.istore_n 1, 1) := by decide +kernel
theorem dX5_notes_14 : decode cX5_notes 14 = .ok (.aload_n 0, 1) := by decide +kernel
theorem dX5_notes_15 : decode cX5_notes 15 = .ok (.getfield 25, 3) := by decide +kernel
theorem dX5_notes_18 : decode cX5_notes 18 = .ok (.iload_n 1, 1) := by decide +kernel
theorem dX5_notes_19 : decode cX5_notes 19 = .ok (.aload_n 0, 1) := by decide +kernel
theorem dX5_notes_20 : decode cX5_notes 20 = .ok (.getfield 25, 3) := by decide +kernel
theorem dX5_notes_23 : decode cX5_notes 23 = .ok (.iconst 1, 1) := by decide +kernel
theorem dX5_notes_24 : decode cX5_notes 24 = .ok (.iaload, 1) := by decide +kernel
theorem dX5_notes_25 : decode cX5_notes 25 = .ok (.iastore, 1) := by decide +kernel
theorem dX5_notes_26 : decode cX5_notes 26 = .ok (.aload_n 0, 1) := by decide +kernel
theorem dX5_notes_27 : decode cX5_notes 27 = .ok (.getfield 25, 3) := by decide +kernel
theorem dX5_notes_30 : decode cX5_notes 30 = .ok (.iload_n 1, 1) := by decide +kernel
theorem dX5_notes_31 : decode cX5_notes 31 = .ok (.iconst 1, 1) := by decide +kernel
theorem dX5_notes_32 : decode cX5_notes 32 = .ok (.iadd, 1) := by decide +kernel
theorem dX5_notes_33 : decode cX5_notes 33 = .ok (.aload_n 0, 1) := by decide +kernel
theorem dX5_notes_34 : decode cX5_notes 34 = .ok (.getfield 25, 3) := by decide +kernel
theorem dX5_notes_37 : decode cX5_notes 37 = .ok (.iconst 2, 1) := by decide +kernel
theorem dX5_notes_38 : decode cX5_notes 38 = .ok (.iaload, 1) := by decide +kernel
theorem dX5_notes_39 : decode cX5_notes 39 = .ok (.iastore, 1) := by decide +kernel
theorem dX5_notes_40 : decode cX5_notes 40 = .ok (.aload_n 0, 1) := by decide +kernel
theorem dX5_notes_41 : decode cX5_notes 41 = .ok (.getfield 25, 3) := by decide +kernel
theorem dX5_notes_44 : decode cX5_notes 44 = .ok (.iload_n 1, 1) := by decide +kernel
theorem dX5_notes_45 : decode cX5_notes 45 = .ok (.iconst 2, 1) := by decide +kernel
theorem dX5_notes_46 : decode cX5_notes 46 = .ok (.iadd, 1) := by decide +kernel
theorem dX5_notes_47 : decode cX5_notes 47 = .ok (.aload_n 0, 1) := by decide +kernel
theorem dX5_notes_48 : decode cX5_notes 48 = .ok (.getfield 25, 3) := by decide +kernel
theorem dX5_notes_51 : decode cX5_notes 51 = .ok (.bipush 8, 2) := by decide +kernel
theorem dX5_notes_53 : decode cX5_notes 53 = .ok (.iaload, 1) := by decide +kernel
theorem dX5_notes_54 : decode cX5_notes 54 = .ok (.iastore, 1) := by decide +kernel
theorem dX5_notes_55 : decode cX5_notes 55 = .ok (.iconst 0, 1) := by decide +kernel
theorem dX5_notes_56 : decode cX5_notes 56 = .ok (.istore_n 2, 1) := by decide +kernel
theorem dX5_notes_57 : decode cX5_notes 57 = .ok (.iload_n 2, 1) := by decide +kernel
theorem dX5_notes_58 : decode cX5_notes 58 = .ok (.bipush 6, 2) := by decide +kernel
theorem dX5_notes_60 : decode cX5_notes 60 = .ok (.if_icmp .ge 32, 3) := by decide +kernel
theorem dX5_notes_63 : decode cX5_notes 63 = .ok (.aload_n 0, 1) := by decide +kernel
theorem dX5_notes_64 : decode cX5_notes 64 = .ok (.getfield 25, 3) := by decide +kernel
theorem dX5_notes_67 : decode cX5_notes 67 = .ok (.iload_n 1, 1) := by decide +kernel
theorem dX5_notes_68 : decode cX5_notes 68 = .ok (.iconst 3, 1) := by decide +kernel
theorem dX5_notes_69 : decode cX5_notes 69 = .ok (.iadd, 1) := by decide +kernel
theorem dX5_notes_70 : decode cX5_notes 70 = .ok (.iload_n 2, 1) := by decide +kernel
theorem dX5_notes_71 : decode cX5_notes 71 = .ok (.iadd, 1) := by decide +kernel
theorem dX5_notes_72 : decode cX5_notes 72 = .ok (.aload_n 0, 1) := by decide +kernel
theorem dX5_notes_73 : decode cX5_notes 73 = .ok (.getfield 25, 3) := by decide +kernel
theorem dX5_notes_76 : decode cX5_notes 76 = .ok (.bipush 10, 2) := by decide +kernel
theorem dX5_notes_78 : decode cX5_notes 78 = .ok (.iconst 5, 1) := by decide +kernel
theorem dX5_notes_79 : decode cX5_notes 79 = .ok (.iload_n 2, 1) := by decide +kernel
theorem dX5_notes_80 : decode cX5_notes 80 = .ok (.imul, 1) := by decide +kernel
theorem dX5_notes_81 : decode cX5_notes 81 = .ok (.iadd, 1) := by decide +kernel
theorem dX5_notes_82 : decode cX5_notes 82 = .ok (.iconst 1, 1) := by decide +kernel
theorem dX5_notes_83 : decode cX5_notes 83 = .ok (.iadd, 1) := by decide +kernel
theorem dX5_notes_84 : decode cX5_notes 84 = .ok (.iaload, 1) := by decide +kernel
theorem dX5_notes_85 : decode cX5_notes 85 = .ok (.iastore, 1) := by decide +kernel
theorem dX5_notes_86 : decode cX5_notes 86 = .ok (.iinc 2 1, 3) := by decide +kernel
theorem dX5_notes_89 : decode cX5_notes 89 = .ok (.goto (-32), 3) := by decide +kernel
theorem dX5_notes_92 : decode cX5_notes 92 = .ok (.aload_n 0, 1) := by decide +kernel
theorem dX5_notes_93 : decode cX5_notes 93 = .ok (.getfield 25, 3) := by decide +kernel
theorem dX5_notes_96 : decode cX5_notes 96 = .ok (.bipush 9, 2) := by decide +kernel
theorem dX5_notes_98 : decode cX5_notes 98 = .ok (.dup2, 1) := by decide +kernel
theorem dX5_notes_99 : decode cX5_notes 99 = .ok (.iaload, 1) := by decide +kernel
theorem dX5_notes_100 : decode cX5_notes 100 = .ok (.iconst 1, 1) := by decide +kernel
theorem dX5_notes_101 : decode cX5_notes 101 = .ok (.iadd, 1) := by decide +kernel
theorem dX5_notes_102 : decode cX5_notes 102 = .ok (.iastore, 1) := by decide +kernel
theorem dX5_notes_103 : decode cX5_notes 103 = .ok (.return_, 1) := by decide +kernel
theorem dX5_later_0 : decode cX5_later 0 = .ok (.aload_n 0, 1) := by decide +kernel
theorem dX5_later_1 : decode cX5_later 1 = .ok (.aload_n 0, 1) := by decide +kernel
theorem dX5_later_2 : decode cX5_later 2 = .ok (.iload_n 1, 1) := by decide +kernel
theorem dX5_later_3 : decode cX5_later 3 = .ok (.iload_n 2, 1) := by decide +kernel
theorem dX5_later_4 : decode cX5_later 4 = .ok (.invokevirtual 140, 3) := by decide +kernel
theorem dX5_later_7 : decode cX5_later 7 = .ok (.invokevirtual 169, 3) := by decide +kernel
theorem dX5_later_10 : decode cX5_later 10 = .ok (.istore_n 3, 1) := by decide +kernel
theorem dX5_later_11 : decode cX5_later 11 = .ok (.iload_n 3, 1) := by decide +kernel
theorem dX5_later_12 : decode cX5_later 12 = .ok (.aload_n 0, 1) := by decide +kernel
theorem dX5_later_13 : decode cX5_later 13 = .ok (.iconst 0, 1) := by decide +kernel
theorem dX5_later_14 : decode cX5_later 14 = .ok (.iload_n 1, 1) := by decide +kernel
theorem dX5_later_15 : decode cX5_later 15 = .ok (.iconst 1, 1) := by decide +kernel
theorem dX5_later_16 : decode cX5_later 16 = .ok (.isub, 1) := by decide +kernel
theorem dX5_later_17 : decode cX5_later 17 = .ok (.iload_n 1, 1) := by decide +kernel
theorem dX5_later_18 : decode cX5_later 18 = .ok (.iload_n 2, 1) := by decide +kernel
theorem dX5_later_19 : decode cX5_later 19 = .ok (.invokevirtual 172, 3) := by decide +kernel
theorem dX5_later_22 : decode cX5_later 22 = .ok (.if_icmp .le 7, 3) := by decide +kernel
theorem dX5_later_25 : decode cX5_later 25 = .ok (.iconst 1, 1) := by decide +kernel
theorem dX5_later_26 : decode cX5_later 26 = .ok (.goto 4, 3) := by decide +kernel
theorem dX5_later_29 : decode cX5_later 29 = .ok (.iconst 0, 1) := by decide +kernel
theorem dX5_later_30 : decode cX5_later 30 = .ok (.istore 4, 2) := by decide +kernel
theorem dX5_later_32 : decode cX5_later 32 = .ok (.iload_n 3, 1) := by decide +kernel
theorem dX5_later_33 : decode cX5_later 33 = .ok (.aload_n 0, 1) := by decide +kernel
theorem dX5_later_34 : decode cX5_later 34 = .ok (.iload_n 2, 1) := by decide +kernel
theorem dX5_later_35 : decode cX5_later 35 = .ok (.aload_n 0, 1) := by decide +kernel
theorem dX5_later_36 : decode cX5_later 36 = .ok (.getfield 25, 3) := by decide +kernel
theorem dX5_later_39 : decode cX5_later 39 = .ok (.iconst 0, 1) := by decide +kernel
theorem dX5_later_40 : decode cX5_later 40 = .ok (.iaload, 1) := by decide +kernel
theorem dX5_later_41 : decode cX5_later 41 = .ok (.iconst 1, 1) := by decide +kernel
theorem dX5_later_42 : decode cX5_later 42 = .ok (.isub, 1) := by decide +kernel
theorem dX5_later_43 : decode cX5_later 43 = .ok (.iload_n 1, 1) := by decide +kernel
theorem dX5_later_44 : decode cX5_later 44 = .ok (.iload_n 2, 1) := by decide +kernel
theorem dX5_later_45 : decode cX5_later 45 = .ok (.invokevirtual 172, 3) := by decide +kernel
theorem dX5_later_48 : decode cX5_later 48 = .ok (.if_icmp .le 7, 3) := by decide +kernel
theorem dX5_later_51 : decode cX5_later 51 = .ok (.iconst 1, 1) := by decide +kernel
theorem dX5_later_52 : decode cX5_later 52 = .ok (.goto 4, 3) := by decide +kernel
theorem dX5_later_55 : decode cX5_later 55 = .ok (.iconst 0, 1) := by decide +kernel
theorem dX5_later_56 : decode cX5_later 56 = .ok (.istore 5, 2) := by decide +kernel
theorem dX5_later_58 : decode cX5_later 58 = .ok (.iload_n 2, 1) := by decide +kernel
theorem dX5_later_59 : decode cX5_later 59 = .ok (.iload_n 1, 1) := by decide +kernel
theorem dX5_later_60 : decode cX5_later 60 = .ok (.isub, 1) := by decide +kernel
theorem dX5_later_61 : decode cX5_later 61 = .ok (.istore 6, 2) := by decide +kernel
theorem dX5_later_63 : decode cX5_later 63 = .ok (.iload 4, 2) := by decide +kernel
theorem dX5_later_65 : decode cX5_later 65 = .ok (.ifCond .eq 17, 3) := by decide +kernel
theorem dX5_later_68 : decode cX5_later 68 = .ok (.iload_n 1, 1) := by decide +kernel
theorem dX5_later_69 : decode cX5_later 69 = .ok (.ifCond .le 9, 3) := by decide +kernel
theorem dX5_later_72 : decode cX5_later 72 = .ok (.iload_n 1, 1) := by decide +kernel
theorem dX5_later_73 : decode cX5_later 73 = .ok (.iconst 1, 1) := by decide +kernel
theorem dX5_later_74 : decode cX5_later 74 = .ok (.isub, 1) := by decide +kernel
theorem dX5_later_75 : decode cX5_later 75 = .ok (.goto 19, 3) := by decide +kernel
theorem dX5_later_78 : decode cX5_later 78 = .ok (.iload_n 1, 1) := by decide +kernel
theorem dX5_later_79 : decode cX5_later 79 = .ok (.goto 15, 3) := by decide +kernel
theorem dX5_later_82 : decode cX5_later 82 = .ok (.iload 6, 2) := by decide +kernel
theorem dX5_later_84 : decode cX5_later 84 = .ok (.ifCond .le 9, 3) := by decide +kernel
theorem dX5_later_87 : decode cX5_later 87 = .ok (.iload_n 1, 1) := by decide +kernel
theorem dX5_later_88 : decode cX5_later 88 = .ok (.iconst 1, 1) := by decide +kernel
theorem dX5_later_89 : decode cX5_later 89 = .ok (.iadd, 1) := by decide +kernel
theorem dX5_later_90 : decode cX5_later 90 = .ok (.goto 4, 3) := by decide +kernel
theorem dX5_later_93 : decode cX5_later 93 = .ok (.iload_n 1, 1) := by decide +kernel
theorem dX5_later_94 : decode cX5_later 94 = .ok (.istore 7, 2) := by decide +kernel
theorem dX5_later_96 : decode cX5_later 96 = .ok (.iload 5, 2) := by decide +kernel
theorem dX5_later_98 : decode cX5_later 98 = .ok (.ifCond .eq 23, 3) := by decide +kernel
theorem dX5_later_101 : decode cX5_later 101 = .ok (.iload_n 2, 1) := by decide +kernel
theorem dX5_later_102 : decode cX5_later 102 = .ok (.aload_n 0, 1) := by decide +kernel
theorem dX5_later_103 : decode cX5_later 103 = .ok (.getfield 25, 3) := by decide +kernel
theorem dX5_later_106 : decode cX5_later 106 = .ok (.iconst 0, 1) := by decide +kernel
theorem dX5_later_107 : decode cX5_later 107 = .ok (.iaload, 1) := by decide +kernel
theorem dX5_later_108 : decode cX5_later 108 = .ok (.if_icmp .ge 9, 3) := by decide +kernel
theorem dX5_later_111 : decode cX5_later 111 = .ok (.iload_n 2, 1) := by decide +kernel
theorem dX5_later_112 : decode cX5_later 112 = .ok (.iconst 1, 1) := by decide +kernel
theorem dX5_later_113 : decode cX5_later 113 = .ok (.iadd, 1) := by decide +kernel
theorem dX5_later_114 : decode cX5_later 114 = .ok (.goto 19, 3) := by decide +kernel
theorem dX5_later_117 : decode cX5_later 117 = .ok (.iload_n 2, 1) := by decide +kernel
theorem dX5_later_118 : decode cX5_later 118 = .ok (.goto 15, 3) := by decide +kernel
theorem dX5_later_121 : decode cX5_later 121 = .ok (.iload 6, 2) := by decide +kernel
theorem dX5_later_123 : decode cX5_later 123 = .ok (.ifCond .le 9, 3) := by decide +kernel
theorem dX5_later_126 : decode cX5_later 126 = .ok (.iload_n 2, 1) := by decide +kernel
theorem dX5_later_127 : decode cX5_later 127 = .ok (.iconst 1, 1) := by decide +kernel
theorem dX5_later_128 : decode cX5_later 128 = .ok (.isub, 1) := by decide +kernel
theorem dX5_later_129 : decode cX5_later 129 = .ok (.goto 4, 3) := by decide +kernel
theorem dX5_later_132 : decode cX5_later 132 = .ok (.iload_n 2, 1) := by decide +kernel
theorem dX5_later_133 : decode cX5_later 133 = .ok (.istore 8, 2) := by decide +kernel
theorem dX5_later_135 : decode cX5_later 135 = .ok (.iload 6, 2) := by decide +kernel
theorem dX5_later_137 : decode cX5_later 137 = .ok (.iconst 1, 1) := by decide +kernel
theorem dX5_later_138 : decode cX5_later 138 = .ok (.if_icmp .ne 17, 3) := by decide +kernel
theorem dX5_later_141 : decode cX5_later 141 = .ok (.iload 4, 2) := by decide +kernel
theorem dX5_later_143 : decode cX5_later 143 = .ok (.ifCond .ne 12, 3) := by decide +kernel
theorem dX5_later_146 : decode cX5_later 146 = .ok (.iload 5, 2) := by decide +kernel
theorem dX5_later_148 : decode cX5_later 148 = .ok (.ifCond .ne 7, 3) := by decide +kernel
theorem dX5_later_151 : decode cX5_later 151 = .ok (.iload_n 2, 1) := by decide +kernel
theorem dX5_later_152 : decode cX5_later 152 = .ok (.goto 5, 3) := by decide +kernel
theorem dX5_later_155 : decode cX5_later 155 = .ok (.iload 8, 2) := by decide +kernel
theorem dX5_later_157 : decode cX5_later 157 = .ok (.istore 8, 2) := by decide +kernel
theorem dX5_later_159 : decode cX5_later 159 = .ok (.bipush 10, 2) := by decide +kernel
theorem dX5_later_161 : decode cX5_later 161 = .ok (.iload 7, 2) := by decide +kernel
theorem dX5_later_163 : decode cX5_later 163 = .ok (.imul, 1) := by decide +kernel
theorem dX5_later_164 : decode cX5_later 164 = .ok (.iload 8, 2) := by decide +kernel
theorem dX5_later_166 : decode cX5_later 166 = .ok (.iadd, 1) := by decide +kernel
theorem dX5_later_167 : decode cX5_later 167 = .ok (.ireturn, 1) := by decide +kernel
theorem dX5_ages_0 : decode cX5_ages 0 = .ok (.aload_n 0, 1) := by decide +kernel
theorem dX5_ages_1 : decode cX5_ages 1 = .ok (.aload_n 0, 1) := by decide +kernel
theorem dX5_ages_2 : decode cX5_ages 2 = .ok (.getfield 25, 3) := by decide +kernel
theorem dX5_ages_5 : decode cX5_ages 5 = .ok (.iconst 1, 1) := by decide +kernel
theorem dX5_ages_6 : decode cX5_ages 6 = .ok (.iaload, 1) := by decide +kernel
theorem dX5_ages_7 : decode cX5_ages 7 = .ok (.aload_n 0, 1) := by decide +kernel
theorem dX5_ages_8 : decode cX5_ages 8 = .ok (.getfield 25, 3) := by decide +kernel
theorem dX5_ages_11 : decode cX5_ages 11 = .ok (.iconst 2, 1) := by decide +kernel
