theorem dX0_init_0 : decode cX0_init 0 = .ok (.aload_n 0, 1) := by decide +kernel
theorem dX0_init_1 : decode cX0_init 1 = .ok (.invokespecial 3, 3) := by decide +kernel
theorem dX0_init_4 : decode cX0_init 4 = .ok (.aload_n 0, 1) := by decide +kernel
theorem dX0_init_5 : decode cX0_init 5 = .ok (.bipush 40, 2) := by decide +kernel
theorem dX0_init_7 : decode cX0_init 7 = .ok (.newarray .int, 2) := by decide +kernel
theorem dX0_init_9 : decode cX0_init 9 = .ok (.putfield 9, 3) := by decide +kernel
theorem dX0_init_12 : decode cX0_init 12 = .ok (.aload_n 0, 1) := by decide +kernel
theorem dX0_init_13 : decode cX0_init 13 = .ok (.bipush 40, 2) := by decide +kernel
theorem dX0_init_15 : decode cX0_init 15 = .ok (.newarray .int, 2) := by decide +kernel
theorem dX0_init_17 : decode cX0_init 17 = .ok (.putfield 15, 3) := by decide +kernel
theorem dX0_init_20 : decode cX0_init 20 = .ok (.aload_n 0, 1) := by decide +kernel
theorem dX0_init_21 : decode cX0_init 21 = .ok (.bipush 40, 2) := by decide +kernel
theorem dX0_init_23 : decode cX0_init 23 = .ok (.newarray .int, 2) := by decide +kernel
theorem dX0_init_25 : decode cX0_init 25 = .ok (.putfield 18, 3) := by decide +kernel
theorem dX0_init_28 : decode cX0_init 28 = .ok (.aload_n 0, 1) := by decide +kernel
theorem dX0_init_29 : decode cX0_init 29 = .ok (.bipush 40, 2) := by decide +kernel
theorem dX0_init_31 : decode cX0_init 31 = .ok (.newarray .int, 2) := by decide +kernel
theorem dX0_init_33 : decode cX0_init 33 = .ok (.putfield 21, 3) := by decide +kernel
theorem dX0_init_36 : decode cX0_init 36 = .ok (.aload_n 0, 1) := by decide +kernel
theorem dX0_init_37 : decode cX0_init 37 = .ok (.bipush 40, 2) := by decide +kernel
theorem dX0_init_39 : decode cX0_init 39 = .ok (.newarray .int, 2) := by decide +kernel
theorem dX0_init_41 : decode cX0_init 41 = .ok (.putfield 24, 3) := by decide +kernel
theorem dX0_init_44 : decode cX0_init 44 = .ok (.aload_n 0, 1) := by decide +kernel
theorem dX0_init_45 : decode cX0_init 45 = .ok (.iconst 0, 1) := by decide +kernel
theorem dX0_init_46 : decode cX0_init 46 = .ok (.putfield 27, 3) := by decide +kernel
theorem dX0_init_49 : decode cX0_init 49 = .ok (.return_, 1) := by decide +kernel
theorem dX0_becomeAs_0 : decode cX0_becomeAs 0 = .ok (.aload_n 0, 1) := by decide +kernel
theorem dX0_becomeAs_1 : decode cX0_becomeAs 1 = .ok (.aload_n 1, 1) := by decide +kernel
theorem dX0_becomeAs_2 : decode cX0_becomeAs 2 = .ok (.getfield 27, 3) := by decide +kernel
theorem dX0_becomeAs_5 : decode cX0_becomeAs 5 = .ok (.putfield 27, 3) := by decide +kernel
theorem dX0_becomeAs_8 : decode cX0_becomeAs 8 = .ok (.aload_n 1, 1) := by decide +kernel
theorem dX0_becomeAs_9 : decode cX0_becomeAs 9 = .ok (.getfield 9, 3) := by decide +kernel
theorem dX0_becomeAs_12 : decode cX0_becomeAs 12 = .ok (.iconst 0, 1) := by decide +kernel
theorem dX0_becomeAs_13 : decode cX0_becomeAs 13 = .ok (.aload_n 0, 1) := by decide +kernel
theorem dX0_becomeAs_14 : decode cX0_becomeAs 14 = .ok (.getfield 9, 3) := by decide +kernel
theorem dX0_becomeAs_17 : decode cX0_becomeAs 17 = .ok (.iconst 0, 1) := by decide +kernel
theorem dX0_becomeAs_18 : decode cX0_becomeAs 18 = .ok (.bipush 40, 2) := by decide +kernel
theorem dX0_becomeAs_20 : decode cX0_becomeAs 20 = .ok (.invokestatic 31, 3) := by decide +kernel
theorem dX0_becomeAs_23 : decode cX0_becomeAs 23 = .ok (.aload_n 1, 1) := by decide +kernel
theorem dX0_becomeAs_24 : decode cX0_becomeAs 24 = .ok (.getfield 15, 3) := by decide +kernel
theorem dX0_becomeAs_27 : decode cX0_becomeAs 27 = .ok (.iconst 0, 1) := by decide +kernel
theorem dX0_becomeAs_28 : decode cX0_becomeAs 28 = .ok (.aload_n 0, 1) := by decide +kernel
theorem dX0_becomeAs_29 : decode cX0_becomeAs 29 = .ok (.getfield 15, 3) := by decide +kernel
theorem dX0_becomeAs_32 : decode cX0_becomeAs 32 = .ok (.iconst 0, 1) := by decide +kernel
theorem dX0_becomeAs_33 : decode cX0_becomeAs 33 = .ok (.bipush 40, 2) := by decide +kernel
theorem dX0_becomeAs_35 : decode cX0_becomeAs 35 = .ok (.invokestatic 31, 3) := by decide +kernel
theorem dX0_becomeAs_38 : decode cX0_becomeAs 38 = .ok (.aload_n 1, 1) := by decide +kernel
theorem dX0_becomeAs_39 : decode cX0_becomeAs 39 = .ok (.getfield 18, 3) := by decide +kernel
theorem dX0_becomeAs_42 : decode cX0_becomeAs 42 = .ok (.iconst 0, 1) := by decide +kernel
theorem dX0_becomeAs_43 : decode cX0_becomeAs 43 = .ok (.aload_n 0, 1) := by decide +kernel
theorem dX0_becomeAs_44 : decode cX0_becomeAs 44 = .ok (.getfield 18, 3) := by decide +kernel
theorem dX0_becomeAs_47 : decode cX0_becomeAs 47 = .ok (.iconst 0, 1) := by decide +kernel
theorem dX0_becomeAs_48 : decode cX0_becomeAs 48 = .ok (.bipush 40, 2) := by decide +kernel
theorem dX0_becomeAs_50 : decode cX0_becomeAs 50 = .ok (.invokestatic 31, 3) := by decide +kernel
theorem dX0_becomeAs_53 : decode cX0_becomeAs 53 = .ok (.aload_n 1, 1) := by decide +kernel
theorem dX0_becomeAs_54 : decode cX0_becomeAs 54 = .ok (.getfield 21, 3) := by decide +kernel
theorem dX0_becomeAs_57 : decode cX0_becomeAs 57 = .ok (.iconst 0, 1) := by decide +kernel
theorem dX0_becomeAs_58 : decode cX0_becomeAs 58 = .ok (.aload_n 0, 1) := by decide +kernel
theorem dX0_becomeAs_59 : decode cX0_becomeAs 59 = .ok (.getfield 21, 3) := by decide +kernel
theorem dX0_becomeAs_62 : decode cX0_becomeAs 62 = .ok (.iconst 0, 1) := by decide +kernel
theorem dX0_becomeAs_63 : decode cX0_becomeAs 63 = .ok (.bipush 40, 2) := by decide +kernel
theorem dX0_becomeAs_65 : decode cX0_becomeAs 65 = .ok (.invokestatic 31, 3) := by decide +kernel
theorem dX0_becomeAs_68 : decode cX0_becomeAs 68 = .ok (.aload_n 1, 1) := by decide +kernel
theorem dX0_becomeAs_69 : decode cX0_becomeAs 69 = .ok (.getfield 24, 3) := by decide +kernel
theorem dX0_becomeAs_72 : decode cX0_becomeAs 72 = .ok (.iconst 0, 1) := by decide +kernel
theorem dX0_becomeAs_73 : decode cX0_becomeAs 73 = .ok (.aload_n 0, 1) := by decide +kernel
theorem dX0_becomeAs_74 : decode cX0_becomeAs 74 = .ok (.getfield 24, 3) := by decide +kernel
theorem dX0_becomeAs_77 : decode cX0_becomeAs 77 = .ok (.iconst 0, 1) := by decide +kernel
theorem dX0_becomeAs_78 : decode cX0_becomeAs 78 = .ok (.bipush 40, 2) := by decide +kernel
theorem dX0_becomeAs_80 : decode cX0_becomeAs 80 = .ok (.invokestatic 31, 3) := by decide +kernel
theorem dX0_becomeAs_83 : decode cX0_becomeAs 83 = .ok (.return_, 1) := by decide +kernel
theorem dX1_init_0 : decode cX1_init 0 = .ok (.aload_n 0, 1) := by decide +kernel
theorem dX1_init_1 : decode cX1_init 1 = .ok (.invokespecial 3, 3) := by decide +kernel
theorem dX1_init_4 : decode cX1_init 4 = .ok (.aload_n 0, 1) := by decide +kernel
theorem dX1_init_5 : decode cX1_init 5 = .ok (.iconst 0, 1) := by decide +kernel
theorem dX1_init_6 : decode cX1_init 6 = .ok (.putfield 9, 3) := by decide +kernel
theorem dX1_init_9 : decode cX1_init 9 = .ok (.aload_n 0, 1) := by decide +kernel
theorem dX1_init_10 : decode cX1_init 10 = .ok (.iconst 0, 1) := by decide +kernel
theorem dX1_init_11 : decode cX1_init 11 = .ok (.putfield 15, 3) := by decide +kernel
theorem dX1_init_14 : decode cX1_init 14 = .ok (.aload_n 0, 1) := by decide +kernel
theorem dX1_init_15 : decode cX1_init 15 = .ok (.iconst 0, 1) := by decide +kernel
theorem dX1_init_16 : decode cX1_init 16 = .ok (.putfield 18, 3) := by decide +kernel
theorem dX1_init_19 : decode cX1_init 19 = .ok (.aload_n 0, 1) := by decide +kernel
theorem dX1_init_20 : decode cX1_init 20 = .ok (.iconst 0, 1) := by decide +kernel
theorem dX1_init_21 : decode cX1_init 21 = .ok (.putfield 21, 3) := by decide +kernel
theorem dX1_init_24 : decode cX1_init 24 = .ok (.aload_n 0, 1) := by decide +kernel
theorem dX1_init_25 : decode cX1_init 25 = .ok (.iconst 0, 1) := by decide +kernel
theorem dX1_init_26 : decode cX1_init 26 = .ok (.putfield 24, 3) := by decide +kernel
theorem dX1_init_29 : decode cX1_init 29 = .ok (.aload_n 0, 1) := by decide +kernel
theorem dX1_init_30 : decode cX1_init 30 = .ok (.iconst 0, 1) := by decide +kernel
theorem dX1_init_31 : decode cX1_init 31 = .ok (.putfield 27, 3) := by decide +kernel
theorem dX1_init_34 : decode cX1_init 34 = .ok (.aload_n 0, 1) := by decide +kernel
theorem dX1_init_35 : decode cX1_init 35 = .ok (.iconst 0, 1) := by decide +kernel
theorem dX1_init_36 : decode cX1_init 36 = .ok (.putfield 30, 3) := by decide +kernel
theorem dX1_init_39 : decode cX1_init 39 = .ok (.aload_n 0, 1) := by decide +kernel
theorem dX1_init_40 : decode cX1_init 40 = .ok (.iconst 0, 1) := by decide +kernel
theorem dX1_init_41 : decode cX1_init 41 = .ok (.putfield 33, 3) := by decide +kernel
theorem dX1_init_44 : decode cX1_init 44 = .ok (.aload_n 0, 1) := by decide +kernel
theorem dX1_init_45 : decode cX1_init 45 = .ok (.iconst 0, 1) := by decide +kernel
theorem dX1_init_46 : decode cX1_init 46 = .ok (.putfield 36, 3) := by decide +kernel
theorem dX1_init_49 : decode cX1_init 49 = .ok (.aload_n 0, 1) := by decide +kernel
theorem dX1_init_50 : decode cX1_init 50 = .ok (.bipush 6, 2) := by decide +kernel
theorem dX1_init_52 : decode cX1_init 52 = .ok (.newarray .int, 2) := by decide +kernel
theorem dX1_init_54 : decode cX1_init 54 = .ok (.putfield 39, 3) := by decide +kernel
theorem dX1_init_57 : decode cX1_init 57 = .ok (.aload_n 0, 1) := by decide +kernel
theorem dX1_init_58 : decode cX1_init 58 = .ok (.bipush 6, 2) := by decide +kernel
theorem dX1_init_60 : decode cX1_init 60 = .ok (.newarray .int, 2) := by decide +kernel
theorem dX1_init_62 : decode cX1_init 62 = .ok (.putfield 43, 3) := by decide +kernel
theorem dX1_init_65 : decode cX1_init 65 = .ok (.aload_n 0, 1) := by decide +kernel
theorem dX1_init_66 : decode cX1_init 66 = .ok (.bipush 6, 2) := by decide +kernel
theorem dX1_init_68 : decode cX1_init 68 = .ok (.newarray .int, 2) := by decide +kernel
theorem dX1_init_70 : decode cX1_init 70 = .ok (.putfield 46, 3) := by decide +kernel
theorem dX1_init_73 : decode cX1_init 73 = .ok (.aload_n 0, 1) := by decide +kernel
theorem dX1_init_74 : decode cX1_init 74 = .ok (.bipush 6, 2) := by decide +kernel
theorem dX1_init_76 : decode cX1_init 76 = .ok (.newarray .int, 2) := by decide +kernel
theorem dX1_init_78 : decode cX1_init 78 = .ok (.putfield 49, 3) := by decide +kernel
theorem dX1_init_81 : decode cX1_init 81 = .ok (.aload_n 0, 1) := by decide +kernel
theorem dX1_init_82 : decode cX1_init 82 = .ok (.bipush 6, 2) := by decide +kernel
theorem dX1_init_84 : decode cX1_init 84 = .ok (.newarray .int, 2) := by decide +kernel
theorem dX1_init_86 : decode cX1_init 86 = .ok (.putfield 52, 3) := by decide +kernel
theorem dX1_init_89 : decode cX1_init 89 = .ok (.aload_n 0, 1) := by decide +kernel
theorem dX1_init_90 : decode cX1_init 90 = .ok (.new 55, 3) := by decide +kernel
theorem dX1_init_93 : decode cX1_init 93 = .ok (.dup, 1) := by decide +kernel
theorem dX1_init_94 : decode cX1_init 94 = .ok (.invokespecial 57, 3) := by decide +kernel
theorem dX1_init_97 : decode cX1_init 97 = .ok (.putfield 58, 3) := by decide +kernel
theorem dX1_init_100 : decode cX1_init 100 = .ok (.return_, 1) := by decide +kernel
theorem dX1_isThere_0 : decode cX1_isThere 0 = .ok (.aload_n 0, 1) := by decide +kernel
theorem dX1_isThere_1 : decode cX1_isThere 1 = .ok (.getfield 9, 3) := by decide +kernel
theorem dX1_isThere_4 : decode cX1_isThere 4 = .ok (.ifCond .le 7, 3) := by decide +kernel
theorem dX1_isThere_7 : decode cX1_isThere 7 = .ok (.iconst 1, 1) := by decide +kernel
theorem dX1_isThere_8 : decode cX1_isThere 8 = .ok (.goto 4, 3) := by decide +kernel
theorem dX1_isThere_11 : decode cX1_isThere 11 = .ok (.iconst 0, 1) := by decide +kernel
theorem dX1_isThere_12 : decode cX1_isThere 12 = .ok (.ireturn, 1) := by decide +kernel
theorem dX1_hasCell_0 : decode cX1_hasCell 0 = .ok (.iload_n 1, 1) := by decide +kernel
theorem dX1_hasCell_1 : decode cX1_hasCell 1 = .ok (.ifCond .lt 15, 3) := by decide +kernel
theorem dX1_hasCell_4 : decode cX1_hasCell 4 = .ok (.iload_n 1, 1) := by decide +kernel
theorem dX1_hasCell_5 : decode cX1_hasCell 5 = .ok (.aload_n 0, 1) := by decide +kernel
theorem dX1_hasCell_6 : decode cX1_hasCell 6 = .ok (.getfield 9, 3) := by decide +kernel
theorem dX1_hasCell_9 : decode cX1_hasCell 9 = .ok (.if_icmp .ge 7, 3) := by decide +kernel
theorem dX1_hasCell_12 : decode cX1_hasCell 12 = .ok (.iconst 1, 1) := by decide +kernel
theorem dX1_hasCell_13 : decode cX1_hasCell 13 = .ok (.goto 4, 3) := by decide +kernel
theorem dX1_hasCell_16 : decode cX1_hasCell 16 = .ok (.iconst 0, 1) := by decide +kernel
theorem dX1_hasCell_17 : decode cX1_hasCell 17 = .ok (.ireturn, 1) := by decide +kernel
theorem dX1_hasOne_0 : decode cX1_hasOne 0 = .ok (.iload_n 1, 1) := by decide +kernel
theorem dX1_hasOne_1 : decode cX1_hasOne 1 = .ok (.ifCond .lt 15, 3) := by decide +kernel
theorem dX1_hasOne_4 : decode cX1_hasOne 4 = .ok (.iload_n 1, 1) := by decide +kernel
theorem dX1_hasOne_5 : decode cX1_hasOne 5 = .ok (.aload_n 0, 1) := by decide +kernel
theorem dX1_hasOne_6 : decode cX1_hasOne 6 = .ok (.getfield 36, 3) := by decide +kernel
theorem dX1_hasOne_9 : decode cX1_hasOne 9 = .ok (.if_icmp .ge 7, 3) := by decide +kernel
theorem dX1_hasOne_12 : decode cX1_hasOne 12 = .ok (.iconst 1, 1) := by decide +kernel
theorem dX1_hasOne_13 : decode cX1_hasOne 13 = .ok (.goto 4, 3) := by decide +kernel
theorem dX1_hasOne_16 : decode cX1_hasOne 16 = .ok (.iconst 0, 1) := by decide +kernel
theorem dX1_hasOne_17 : decode cX1_hasOne 17 = .ok (.ireturn, 1) := by decide +kernel
theorem dX1_hasRoomFor_0 : decode cX1_hasRoomFor 0 = .ok (.aload_n 0, 1) := by decide +kernel
theorem dX1_hasRoomFor_1 : decode cX1_hasRoomFor 1 = .ok (.getfield 58, 3) := by decide +kernel
theorem dX1_hasRoomFor_4 : decode cX1_hasRoomFor 4 = .ok (.getfield 62, 3) := by decide +kernel
theorem dX1_hasRoomFor_7 : decode cX1_hasRoomFor 7 = .ok (.iload_n 1, 1) := by decide +kernel
theorem dX1_hasRoomFor_8 : decode cX1_hasRoomFor 8 = .ok (.iadd, 1) := by decide +kernel
theorem dX1_hasRoomFor_9 : decode cX1_hasRoomFor 9 = .ok (.bipush 40, 2) := by decide +kernel
theorem dX1_hasRoomFor_11 : decode cX1_hasRoomFor 11 = .ok (.if_icmp .gt 7, 3) := by decide +kernel
theorem dX1_hasRoomFor_14 : decode cX1_hasRoomFor 14 = .ok (.iconst 1, 1) := by decide +kernel
theorem dX1_hasRoomFor_15 : decode cX1_hasRoomFor 15 = .ok (.goto 4, 3) := by decide +kernel
theorem dX1_hasRoomFor_18 : decode cX1_hasRoomFor 18 = .ok (.iconst 0, 1) := by decide +kernel
theorem dX1_hasRoomFor_19 : decode cX1_hasRoomFor 19 = .ok (.ireturn, 1) := by decide +kernel
theorem dX1_canBeCoasts_0 : decode cX1_canBeCoasts 0 = .ok (.iload_n 1, 1) := by decide +kernel
theorem dX1_canBeCoasts_1 : decode cX1_canBeCoasts 1 = .ok (.ifCond .lt 20, 3) := by decide +kernel
theorem dX1_canBeCoasts_4 : decode cX1_canBeCoasts 4 = .ok (.iload_n 1, 1) := by decide +kernel
theorem dX1_canBeCoasts_5 : decode cX1_canBeCoasts 5 = .ok (.iload_n 2, 1) := by decide +kernel
theorem dX1_canBeCoasts_6 : decode cX1_canBeCoasts 6 = .ok (.if_icmp .gt 15, 3) := by decide +kernel
theorem dX1_canBeCoasts_9 : decode cX1_canBeCoasts 9 = .ok (.iload_n 2, 1) := by decide +kernel
theorem dX1_canBeCoasts_10 : decode cX1_canBeCoasts 10 = .ok (.aload_n 0, 1) := by decide +kernel
theorem dX1_canBeCoasts_11 : decode cX1_canBeCoasts 11 = .ok (.getfield 9, 3) := by decide +kernel
theorem dX1_canBeCoasts_14 : decode cX1_canBeCoasts 14 = .ok (.if_icmp .gt 7, 3) := by decide +kernel
theorem dX1_canBeCoasts_17 : decode cX1_canBeCoasts 17 = .ok (.iconst 1, 1) := by decide +kernel
theorem dX1_canBeCoasts_18 : decode cX1_canBeCoasts 18 = .ok (.goto 4, 3) := by decide +kernel
theorem dX1_canBeCoasts_21 : decode cX1_canBeCoasts 21 = .ok (.iconst 0, 1) := by decide +kernel
theorem dX1_canBeCoasts_22 : decode cX1_canBeCoasts 22 = .ok (.ireturn, 1) := by decide +kernel
theorem dX1_strip_0 : decode cX1_strip 0 = .ok (.aload_n 0, 1) := by decide +kernel
theorem dX1_strip_1 : decode cX1_strip 1 = .ok (.getfield 18, 3) := by decide +kernel
theorem dX1_strip_4 : decode cX1_strip 4 = .ok (.aload_n 0, 1) := by decide +kernel
theorem dX1_strip_5 : decode cX1_strip 5 = .ok (.getfield 15, 3) := by decide +kernel
theorem dX1_strip_8 : decode cX1_strip 8 = .ok (.isub, 1) := by decide +kernel
theorem dX1_strip_9 : decode cX1_strip 9 = .ok (.ireturn, 1) := by decide +kernel
theorem dX1_coasts_0 : decode cX1_coasts 0 = .ok (.aload_n 0, 1) := by decide +kernel
theorem dX1_coasts_1 : decode cX1_coasts 1 = .ok (.getfield 15, 3) := by decide +kernel
theorem dX1_coasts_4 : decode cX1_coasts 4 = .ok (.aload_n 0, 1) := by decide +kernel
theorem dX1_coasts_5 : decode cX1_coasts 5 = .ok (.getfield 18, 3) := by decide +kernel
theorem dX1_coasts_8 : decode cX1_coasts 8 = .ok (.invokestatic 65, 3) := by decide +kernel
theorem dX1_coasts_11 : decode cX1_coasts 11 = .ok (.ireturn, 1) := by decide +kernel
theorem dX1_becomeAs_0 : decode cX1_becomeAs 0 = .ok (.aload_n 0, 1) := by decide +kernel
theorem dX1_becomeAs_1 : decode cX1_becomeAs 1 = .ok (.aload_n 1, 1) := by decide +kernel
theorem dX1_becomeAs_2 : decode cX1_becomeAs 2 = .ok (.getfield 9, 3) := by decide +kernel
theorem dX1_becomeAs_5 : decode cX1_becomeAs 5 = .ok (.putfield 9, 3) := by decide +kernel
theorem dX1_becomeAs_8 : decode cX1_becomeAs 8 = .ok (.aload_n 0, 1) := by decide +kernel
theorem dX1_becomeAs_9 : decode cX1_becomeAs 9 = .ok (.aload_n 1, 1) := by decide +kernel
theorem dX1_becomeAs_10 : decode cX1_becomeAs 10 = .ok (.getfield 15, 3) := by decide +kernel
theorem dX1_becomeAs_13 : decode cX1_becomeAs 13 = .ok (.putfield 15, 3) := by decide +kernel
theorem dX1_becomeAs_16 : decode cX1_becomeAs 16 = .ok (.aload_n 0, 1) := by decide +kernel
theorem dX1_becomeAs_17 : decode cX1_becomeAs 17 = .ok (.aload_n 1, 1) := by decide +kernel
theorem dX1_becomeAs_18 : decode cX1_becomeAs 18 = .ok (.getfield 18, 3) := by decide +kernel
theorem dX1_becomeAs_21 : decode cX1_becomeAs 21 = .ok (.putfield 18, 3) := by decide +kernel
theorem dX1_becomeAs_24 : decode cX1_becomeAs 24 = .ok (.aload_n 0, 1) := by decide +kernel
theorem dX1_becomeAs_25 : decode cX1_becomeAs 25 = .ok (.aload_n 1, 1) := by decide +kernel
theorem dX1_becomeAs_26 : decode cX1_becomeAs 26 = .ok (.getfield 21, 3) := by decide +kernel
theorem dX1_becomeAs_29 : decode cX1_becomeAs 29 = .ok (.putfield 21, 3) := by decide +kernel
theorem dX1_becomeAs_32 : decode cX1_becomeAs 32 = .ok (.aload_n 0, 1) := by decide +kernel
theorem dX1_becomeAs_33 : decode cX1_becomeAs 33 = .ok (.aload_n 1, 1) := by decide +kernel
theorem dX1_becomeAs_34 : decode cX1_becomeAs 34 = .ok (.getfield 24, 3) := by decide +kernel
theorem dX1_becomeAs_37 : decode cX1_becomeAs 37 = .ok (.putfield 24, 3) := by decide +kernel
theorem dX1_becomeAs_40 : decode cX1_becomeAs 40 = .ok (.aload_n 0, 1) := by decide +kernel
theorem dX1_becomeAs_41 : decode cX1_becomeAs 41 = .ok (.aload_n 1, 1) := by decide +kernel
theorem dX1_becomeAs_42 : decode cX1_becomeAs 42 = .ok (.getfield 27, 3) := by decide +kernel
theorem dX1_becomeAs_45 : decode cX1_becomeAs 45 = .ok (.putfield 27, 3) := by decide +kernel
theorem dX1_becomeAs_48 : decode cX1_becomeAs 48 = .ok (.aload_n 0, 1) := by decide +kernel
theorem dX1_becomeAs_49 : decode cX1_becomeAs 49 = .ok (.aload_n 1, 1) := by decide +kernel
theorem dX1_becomeAs_50 : decode cX1_becomeAs 50 = .ok (.getfield 30, 3) := by decide +kernel
theorem dX1_becomeAs_53 : decode cX1_becomeAs 53 = .ok (.putfield 30, 3) := by decide +kernel
theorem dX1_becomeAs_56 : decode cX1_becomeAs 56 = .ok (.aload_n 0, 1) := by decide +kernel
theorem dX1_becomeAs_57 : decode cX1_becomeAs 57 = .ok (.aload_n 1, 1) := by decide +kernel
theorem dX1_becomeAs_58 : decode cX1_becomeAs 58 = .ok (.getfield 33, 3) := by decide +kernel
theorem dX1_becomeAs_61 : decode cX1_becomeAs 61 = .ok (.putfield 33, 3) := by decide +kernel
theorem dX1_becomeAs_64 : decode cX1_becomeAs 64 = .ok (.aload_n 0, 1) := by decide +kernel
theorem dX1_becomeAs_65 : decode cX1_becomeAs 65 = .ok (.aload_n 1, 1) := by decide +kernel
theorem dX1_becomeAs_66 : decode cX1_becomeAs 66 = .ok (.getfield 36, 3) := by decide +kernel
theorem dX1_becomeAs_69 : decode cX1_becomeAs 69 = .ok (.putfield 36, 3) := by decide +kernel
theorem dX1_becomeAs_72 : decode cX1_becomeAs 72 = .ok (.aload_n 1, 1) := by decide +kernel
theorem dX1_becomeAs_73 : decode cX1_becomeAs 73 = .ok (.getfield 39, 3) := by decide +kernel
theorem dX1_becomeAs_76 : decode cX1_becomeAs 76 = .ok (.iconst 0, 1) := by decide +kernel
theorem dX1_becomeAs_77 : decode cX1_becomeAs 77 = .ok (.aload_n 0, 1) := by decide +kernel
theorem dX1_becomeAs_78 : decode cX1_becomeAs 78 = .ok (.getfield 39, 3) := by decide +kernel
theorem dX1_becomeAs_81 : decode cX1_becomeAs 81 = .ok (.iconst 0, 1) := by decide +kernel
theorem dX1_becomeAs_82 : decode cX1_becomeAs 82 = .ok (.bipush 6, 2) := by decide +kernel
theorem dX1_becomeAs_84 : decode cX1_becomeAs 84 = .ok (.invokestatic 69, 3) := by decide +kernel
theorem dX1_becomeAs_87 : decode cX1_becomeAs 87 = .ok (.aload_n 1, 1) := by decide +kernel
theorem dX1_becomeAs_88 : decode cX1_becomeAs 88 = .ok (.getfield 43, 3) := by decide +kernel
theorem dX1_becomeAs_91 : decode cX1_becomeAs 91 = .ok (.iconst 0, 1) := by decide +kernel
theorem dX1_becomeAs_92 : decode cX1_becomeAs 92 = .ok (.aload_n 0, 1) := by decide +kernel
theorem dX1_becomeAs_93 : decode cX1_becomeAs 93 = .ok (.getfield 43, 3) := by decide +kernel
theorem dX1_becomeAs_96 : decode cX1_becomeAs 96 = .ok (.iconst 0, 1) := by decide +kernel
theorem dX1_becomeAs_97 : decode cX1_becomeAs 97 = .ok (.bipush 6, 2) := by decide +kernel
theorem dX1_becomeAs_99 : decode cX1_becomeAs 99 = .ok (.invokestatic 69, 3) := by decide +kernel
theorem dX1_becomeAs_102 : decode cX1_becomeAs 102 = .ok (.aload_n 1, 1) := by decide +kernel
theorem dX1_becomeAs_103 : decode cX1_becomeAs 103 = .ok (.getfield 46, 3) := by decide +kernel
theorem dX1_becomeAs_106 : decode cX1_becomeAs 106 = .ok (.iconst 0, 1) := by decide +kernel
theorem dX1_becomeAs_107 : decode cX1_becomeAs 107 = .ok (.aload_n 0, 1) := by decide +kernel
theorem dX1_becomeAs_108 : decode cX1_becomeAs 108 = .ok (.getfield 46, 3) := by decide +kernel
theorem dX1_becomeAs_111 : decode cX1_becomeAs 111 = .ok (.iconst 0, 1) := by decide +kernel
theorem dX1_becomeAs_112 : decode cX1_becomeAs 112 = .ok (.bipush 6, 2) := by decide +kernel
theorem dX1_becomeAs_114 : decode cX1_becomeAs 114 = .ok (.invokestatic 69, 3) := by decide +kernel
theorem dX1_becomeAs_117 : decode cX1_becomeAs 117 = .ok (.aload_n 1, 1) := by decide +kernel
theorem dX1_becomeAs_118 : decode cX1_becomeAs 118 = .ok (.getfield 49, 3) := by decide +kernel
theorem dX1_becomeAs_121 : decode cX1_becomeAs 121 = .ok (.iconst 0, 1) := by decide +kernel
theorem dX1_becomeAs_122 : decode cX1_becomeAs 122 = .ok (.aload_n 0, 1) := by decide +kernel
theorem dX1_becomeAs_123 : decode cX1_becomeAs 123 = .ok (.getfield 49, 3) := by decide +kernel
theorem dX1_becomeAs_126 : decode cX1_becomeAs 126 = .ok (.iconst 0, 1) := by decide +kernel
theorem dX1_becomeAs_127 : decode cX1_becomeAs 127 = .ok (.bipush 6, 2) := by decide +kernel
theorem dX1_becomeAs_129 : decode cX1_becomeAs 129 = .ok (.invokestatic 69, 3) := by decide +kernel
theorem dX1_becomeAs_132 : decode cX1_becomeAs 132 = .ok (.aload_n 1, 1) := by decide +kernel
theorem dX1_becomeAs_133 : decode cX1_becomeAs 133 = .ok (.getfield 52, 3) := by decide +kernel
theorem dX1_becomeAs_136 : decode cX1_becomeAs 136 = .ok (.iconst 0, 1) := by decide +kernel
theorem dX1_becomeAs_137 : decode cX1_becomeAs 137 = .ok (.aload_n 0, 1) := by decide +kernel
theorem dX1_becomeAs_138 : decode cX1_becomeAs 138 = .ok (.getfield 52, 3) := by decide +kernel
theorem dX1_becomeAs_141 : decode cX1_becomeAs 141 = .ok (.iconst 0, 1) := by decide +kernel
theorem dX1_becomeAs_142 : decode cX1_becomeAs 142 = .ok (.bipush 6, 2) := by decide +kernel
theorem dX1_becomeAs_144 : decode cX1_becomeAs 144 = .ok (.invokestatic 69, 3) := by decide +kernel
theorem dX1_becomeAs_147 : decode cX1_becomeAs 147 = .ok (.aload_n 0, 1) := by decide +kernel
theorem dX1_becomeAs_148 : decode cX1_becomeAs 148 = .ok (.getfield 58, 3) := by decide +kernel
theorem dX1_becomeAs_151 : decode cX1_becomeAs 151 = .ok (.aload_n 1, 1) := by decide +kernel
theorem dX1_becomeAs_152 : decode cX1_becomeAs 152 = .ok (.getfield 58, 3) := by decide +kernel
theorem dX1_becomeAs_155 : decode cX1_becomeAs 155 = .ok (.invokevirtual 75, 3) := by decide +kernel
theorem dX1_becomeAs_158 : decode cX1_becomeAs 158 = .ok (.return_, 1) := by decide +kernel
theorem dX1_isOf_0 : decode cX1_isOf 0 = .ok (.aload_n 0, 1) := by decide +kernel
theorem dX1_isOf_1 : decode cX1_isOf 1 = .ok (.getfield 39, 3) := by decide +kernel
theorem dX1_isOf_4 : decode cX1_isOf 4 = .ok (.iload_n 1, 1) := by decide +kernel
theorem dX1_isOf_5 : decode cX1_isOf 5 = .ok (.iaload, 1) := by decide +kernel
theorem dX1_isOf_6 : decode cX1_isOf 6 = .ok (.istore_n 3, 1) := by decide +kernel
theorem dX1_isOf_7 : decode cX1_isOf 7 = .ok (.iload_n 2, 1) := by decide +kernel
theorem dX1_isOf_8 : decode cX1_isOf 8 = .ok (.ifCond .eq 28, 3) := by decide +kernel
theorem dX1_isOf_11 : decode cX1_isOf 11 = .ok (.iload_n 3, 1) := by decide +kernel
theorem dX1_isOf_12 : decode cX1_isOf 12 = .ok (.iload_n 2, 1) := by decide +kernel
theorem dX1_isOf_13 : decode cX1_isOf 13 = .ok (.if_icmp .eq 23, 3) := by decide +kernel
theorem dX1_isOf_16 : decode cX1_isOf 16 = .ok (.iload_n 2, 1) := by decide +kernel
theorem dX1_isOf_17 : decode cX1_isOf 17 = .ok (.iconst 1, 1) := by decide +kernel
theorem dX1_isOf_18 : decode cX1_isOf 18 = .ok (.if_icmp .ne 8, 3) := by decide +kernel
theorem dX1_isOf_21 : decode cX1_isOf 21 = .ok (.iload_n 3, 1) := by decide +kernel
theorem dX1_isOf_22 : decode cX1_isOf 22 = .ok (.iconst 4, 1) := by decide +kernel
theorem dX1_isOf_23 : decode cX1_isOf 23 = .ok (.if_icmp .eq 13, 3) := by decide +kernel
theorem dX1_isOf_26 : decode cX1_isOf 26 = .ok (.iload_n 2, 1) := by decide +kernel
theorem dX1_isOf_27 : decode cX1_isOf 27 = .ok (.iconst 2, 1) := by decide +kernel
theorem dX1_isOf_28 : decode cX1_isOf 28 = .ok (.if_icmp .ne 12, 3) := by decide +kernel
theorem dX1_isOf_31 : decode cX1_isOf 31 = .ok (.iload_n 3, 1) := by decide +kernel
theorem dX1_isOf_32 : decode cX1_isOf 32 = .ok (.iconst 5, 1) := by decide +kernel
theorem dX1_isOf_33 : decode cX1_isOf 33 = .ok (.if_icmp .ne 7, 3) := by decide +kernel
theorem dX1_isOf_36 : decode cX1_isOf 36 = .ok (.iconst 1, 1) := by decide +kernel
theorem dX1_isOf_37 : decode cX1_isOf 37 = .ok (.goto 4, 3) := by decide +kernel
theorem dX1_isOf_40 : decode cX1_isOf 40 = .ok (.iconst 0, 1) := by decide +kernel
theorem dX1_isOf_41 : decode cX1_isOf 41 = .ok (.ireturn, 1) := by decide +kernel
theorem dX1_ladies_0 : decode cX1_ladies 0 = .ok (.iconst 0, 1) := by decide +kernel
theorem dX1_ladies_1 : decode cX1_ladies 1 = .ok (.istore_n 1, 1) := by decide +kernel
theorem dX1_ladies_2 : decode cX1_ladies 2 = .ok (.iconst 0, 1) := by decide +kernel
theorem dX1_ladies_3 : decode cX1_ladies 3 = .ok (.istore_n 2, 1) := by decide +kernel
theorem dX1_ladies_4 : decode cX1_ladies 4 = .ok (.iload_n 2, 1) := by decide +kernel
theorem dX1_ladies_5 : decode cX1_ladies 5 = .ok (.aload_n 0, 1) := by decide +kernel
theorem dX1_ladies_6 : decode cX1_ladies 6 = .ok (.getfield 36, 3) := by decide +kernel
theorem dX1_ladies_9 : decode cX1_ladies 9 = .ok (.if_icmp .ge 21, 3) := by decide +kernel
theorem dX1_ladies_12 : decode cX1_ladies 12 = .ok (.aload_n 0, 1) := by decide +kernel
theorem dX1_ladies_13 : decode cX1_ladies 13 = .ok (.iload_n 2, 1) := by decide +kernel
theorem dX1_ladies_14 : decode cX1_ladies 14 = .ok (.iconst 2, 1) := by decide +kernel
theorem dX1_ladies_15 : decode cX1_ladies 15 = .ok (.invokevirtual 79, 3) := by decide +kernel
theorem dX1_ladies_18 : decode cX1_ladies 18 = .ok (.ifCond .eq 6, 3) := by decide +kernel
theorem dX1_ladies_21 : decode cX1_ladies 21 = .ok (.iinc 1 1, 3) := by decide +kernel
theorem dX1_ladies_24 : decode cX1_ladies 24 = .ok (.iinc 2 1, 3) := by decide +kernel
theorem dX1_ladies_27 : decode cX1_ladies 27 = .ok (.goto (-23), 3) := by decide +kernel
theorem dX1_ladies_30 : decode cX1_ladies 30 = .ok (.iload_n 1, 1) := by decide +kernel
theorem dX1_ladies_31 : decode cX1_ladies 31 = .ok (.ireturn, 1) := by decide +kernel
theorem dX1_votes_0 : decode cX1_votes 0 = .ok (.aload_n 0, 1) := by decide +kernel
theorem dX1_votes_1 : decode cX1_votes 1 = .ok (.getfield 39, 3) := by decide +kernel
theorem dX1_votes_4 : decode cX1_votes 4 = .ok (.iload_n 1, 1) := by decide +kernel
theorem dX1_votes_5 : decode cX1_votes 5 = .ok (.iaload, 1) := by decide +kernel
theorem dX1_votes_6 : decode cX1_votes 6 = .ok (.tableswitch 61 2 5 #[30, 59, 50, 39], 30) := by decide +kernel
theorem dX1_votes_36 : decode cX1_votes 36 = .ok (.aload_n 0, 1) := by decide +kernel
theorem dX1_votes_37 : decode cX1_votes 37 = .ok (.getfield 49, 3) := by decide +kernel
theorem dX1_votes_40 : decode cX1_votes 40 = .ok (.iload_n 1, 1) := by decide +kernel
theorem dX1_votes_41 : decode cX1_votes 41 = .ok (.iaload, 1) := by decide +kernel
theorem dX1_votes_42 : decode cX1_votes 42 = .ok (.iconst 2, 1) := by decide +kernel
theorem dX1_votes_43 : decode cX1_votes 43 = .ok (.idiv, 1) := by decide +kernel
theorem dX1_votes_44 : decode cX1_votes 44 = .ok (.ireturn, 1) := by decide +kernel
theorem dX1_votes_45 : decode cX1_votes 45 = .ok (.aload_n 0, 1) := by decide +kernel
theorem dX1_votes_46 : decode cX1_votes 46 = .ok (.getfield 49, 3) := by decide +kernel
theorem dX1_votes_49 : decode cX1_votes 49 = .ok (.iload_n 1, 1) := by decide +kernel
theorem dX1_votes_50 : decode cX1_votes 50 = .ok (.iaload, 1) := by decide +kernel
theorem dX1_votes_51 : decode cX1_votes 51 = .ok (.iconst 2, 1) := by decide +kernel
theorem dX1_votes_52 : decode cX1_votes 52 = .ok (.idiv, 1) := by decide +kernel
theorem dX1_votes_53 : decode cX1_votes 53 = .ok (.iconst 1, 1) := by decide +kernel
theorem dX1_votes_54 : decode cX1_votes 54 = .ok (.iadd, 1) := by decide +kernel
theorem dX1_votes_55 : decode cX1_votes 55 = .ok (.ireturn, 1) := by decide +kernel
theorem dX1_votes_56 : decode cX1_votes 56 = .ok (.aload_n 0, 1) := by decide +kernel
theorem dX1_votes_57 : decode cX1_votes 57 = .ok (.getfield 49, 3) := by decide +kernel
theorem dX1_votes_60 : decode cX1_votes 60 = .ok (.iload_n 1, 1) := by decide +kernel
theorem dX1_votes_61 : decode cX1_votes 61 = .ok (.iaload, 1) := by decide +kernel
theorem dX1_votes_62 : decode cX1_votes 62 = .ok (.iconst 2, 1) := by decide +kernel
theorem dX1_votes_63 : decode cX1_votes 63 = .ok (.imul, 1) := by decide +kernel
theorem dX1_votes_64 : decode cX1_votes 64 = .ok (.ireturn, 1) := by decide +kernel
theorem dX1_votes_65 : decode cX1_votes 65 = .ok (.iconst 1, 1) := by decide +kernel
theorem dX1_votes_66 : decode cX1_votes 66 = .ok (.ireturn, 1) := by decide +kernel
theorem dX1_votes_67 : decode cX1_votes 67 = .ok (.aload_n 0, 1) := by decide +kernel
theorem dX1_votes_68 : decode cX1_votes 68 = .ok (.getfield 49, 3) := by decide +kernel
theorem dX1_votes_71 : decode cX1_votes 71 = .ok (.iload_n 1, 1) := by decide +kernel
theorem dX1_votes_72 : decode cX1_votes 72 = .ok (.iaload, 1) := by decide +kernel
theorem dX1_votes_73 : decode cX1_votes 73 = .ok (.ireturn, 1) := by decide +kernel
theorem dX1_wouldBelong_0 : decode cX1_wouldBelong 0 = .ok (.iload 4, 2) := by decide +kernel
theorem dX1_wouldBelong_2 : decode cX1_wouldBelong 2 = .ok (.iload_n 2, 1) := by decide +kernel
theorem dX1_wouldBelong_3 : decode cX1_wouldBelong 3 = .ok (.if_icmp .gt 13, 3) := by decide +kernel
theorem dX1_wouldBelong_6 : decode cX1_wouldBelong 6 = .ok (.iload_n 2, 1) := by decide +kernel
theorem dX1_wouldBelong_7 : decode cX1_wouldBelong 7 = .ok (.iload 5, 2) := by decide +kernel
theorem dX1_wouldBelong_9 : decode cX1_wouldBelong 9 = .ok (.if_icmp .ge 7, 3) := by decide +kernel
theorem dX1_wouldBelong_12 : decode cX1_wouldBelong 12 = .ok (.iconst 1, 1) := by decide +kernel
theorem dX1_wouldBelong_13 : decode cX1_wouldBelong 13 = .ok (.goto 4, 3) := by decide +kernel
theorem dX1_wouldBelong_16 : decode cX1_wouldBelong 16 = .ok (.iconst 0, 1) := by decide +kernel
theorem dX1_wouldBelong_17 : decode cX1_wouldBelong 17 = .ok (.istore 6, 2) := by decide +kernel
theorem dX1_wouldBelong_19 : decode cX1_wouldBelong 19 = .ok (.aload_n 0, 1) := by decide +kernel
theorem dX1_wouldBelong_20 : decode cX1_wouldBelong 20 = .ok (.getfield 21, 3) := by decide +kernel
theorem dX1_wouldBelong_23 : decode cX1_wouldBelong 23 = .ok (.iload_n 3, 1) := by decide +kernel
theorem dX1_wouldBelong_24 : decode cX1_wouldBelong 24 = .ok (.if_icmp .gt 15, 3) := by decide +kernel
theorem dX1_wouldBelong_27 : decode cX1_wouldBelong 27 = .ok (.iload_n 3, 1) := by decide +kernel
theorem dX1_wouldBelong_28 : decode cX1_wouldBelong 28 = .ok (.aload_n 0, 1) := by decide +kernel
theorem dX1_wouldBelong_29 : decode cX1_wouldBelong 29 = .ok (.getfield 24, 3) := by decide +kernel
theorem dX1_wouldBelong_32 : decode cX1_wouldBelong 32 = .ok (.if_icmp .ge 7, 3) := by decide +kernel
theorem dX1_wouldBelong_35 : decode cX1_wouldBelong 35 = .ok (.iconst 1, 1) := by decide +kernel
theorem dX1_wouldBelong_36 : decode cX1_wouldBelong 36 = .ok (.goto 4, 3) := by decide +kernel
theorem dX1_wouldBelong_39 : decode cX1_wouldBelong 39 = .ok (.iconst 0, 1) := by decide +kernel
theorem dX1_wouldBelong_40 : decode cX1_wouldBelong 40 = .ok (.istore 7, 2) := by decide +kernel
theorem dX1_wouldBelong_42 : decode cX1_wouldBelong 42 = .ok (.iload_n 2, 1) := by decide +kernel
theorem dX1_wouldBelong_43 : decode cX1_wouldBelong 43 = .ok (.iload 4, 2) := by decide +kernel
theorem dX1_wouldBelong_45 : decode cX1_wouldBelong 45 = .ok (.iconst 1, 1) := by decide +kernel
theorem dX1_wouldBelong_46 : decode cX1_wouldBelong 46 = .ok (.isub, 1) := by decide +kernel
theorem dX1_wouldBelong_47 : decode cX1_wouldBelong 47 = .ok (.if_icmp .eq 9, 3) := by decide +kernel
theorem dX1_wouldBelong_50 : decode cX1_wouldBelong 50 = .ok (.iload_n 2, 1) := by decide +kernel
theorem dX1_wouldBelong_51 : decode cX1_wouldBelong 51 = .ok (.iload 5, 2) := by decide +kernel
theorem dX1_wouldBelong_53 : decode cX1_wouldBelong 53 = .ok (.if_icmp .ne 7, 3) := by decide +kernel
theorem dX1_wouldBelong_56 : decode cX1_wouldBelong 56 = .ok (.iconst 1, 1) := by decide +kernel
theorem dX1_wouldBelong_57 : decode cX1_wouldBelong 57 = .ok (.goto 4, 3) := by decide +kernel
theorem dX1_wouldBelong_60 : decode cX1_wouldBelong 60 = .ok (.iconst 0, 1) := by decide +kernel
theorem dX1_wouldBelong_61 : decode cX1_wouldBelong 61 = .ok (.istore 8, 2) := by decide +kernel
theorem dX1_wouldBelong_63 : decode cX1_wouldBelong 63 = .ok (.iload_n 1, 1) := by decide +kernel
theorem dX1_wouldBelong_64 : decode cX1_wouldBelong 64 = .ok (.tableswitch 119 1 5 #[36, 56, 99, 39, 72], 36) := by decide +kernel
theorem dX1_wouldBelong_100 : decode cX1_wouldBelong 100 = .ok (.iload 7, 2) := by decide +kernel
theorem dX1_wouldBelong_102 : decode cX1_wouldBelong 102 = .ok (.ireturn, 1) := by decide +kernel
theorem dX1_wouldBelong_103 : decode cX1_wouldBelong 103 = .ok (.iload 7, 2) := by decide +kernel
theorem dX1_wouldBelong_105 : decode cX1_wouldBelong 105 = .ok (.ifCond .eq 13, 3) := by decide +kernel
theorem dX1_wouldBelong_108 : decode cX1_wouldBelong 108 = .ok (.iload_n 2, 1) := by decide +kernel
theorem dX1_wouldBelong_109 : decode cX1_wouldBelong 109 = .ok (.iload 4, 2) := by decide +kernel
theorem dX1_wouldBelong_111 : decode cX1_wouldBelong 111 = .ok (.if_icmp .lt 7, 3) := by decide +kernel
theorem dX1_wouldBelong_114 : decode cX1_wouldBelong 114 = .ok (.iconst 1, 1) := by decide +kernel
theorem dX1_wouldBelong_115 : decode cX1_wouldBelong 115 = .ok (.goto 4, 3) := by decide +kernel
theorem dX1_wouldBelong_118 : decode cX1_wouldBelong 118 = .ok (.iconst 0, 1) := by decide +kernel
theorem dX1_wouldBelong_119 : decode cX1_wouldBelong 119 = .ok (.ireturn, 1) := by decide +kernel
theorem dX1_wouldBelong_120 : decode cX1_wouldBelong 120 = .ok (.iload 6, 2) := by decide +kernel
theorem dX1_wouldBelong_122 : decode cX1_wouldBelong 122 = .ok (.ifCond .ne 8, 3) := by decide +kernel
theorem dX1_wouldBelong_125 : decode cX1_wouldBelong 125 = .ok (.iload 8, 2) := by decide +kernel
theorem dX1_wouldBelong_127 : decode cX1_wouldBelong 127 = .ok (.ifCond .eq 7, 3) := by decide +kernel
theorem dX1_wouldBelong_130 : decode cX1_wouldBelong 130 = .ok (.iconst 1, 1) := by decide +kernel
theorem dX1_wouldBelong_131 : decode cX1_wouldBelong 131 = .ok (.goto 4, 3) := by decide +kernel
theorem dX1_wouldBelong_134 : decode cX1_wouldBelong 134 = .ok (.iconst 0, 1) := by decide +kernel
theorem dX1_wouldBelong_135 : decode cX1_wouldBelong 135 = .ok (.ireturn, 1) := by decide +kernel
theorem dX1_wouldBelong_136 : decode cX1_wouldBelong 136 = .ok (.iload 6, 2) := by decide +kernel
theorem dX1_wouldBelong_138 : decode cX1_wouldBelong 138 = .ok (.ifCond .ne 8, 3) := by decide +kernel
theorem dX1_wouldBelong_141 : decode cX1_wouldBelong 141 = .ok (.iload 8, 2) := by decide +kernel
theorem dX1_wouldBelong_143 : decode cX1_wouldBelong 143 = .ok (.ifCond .eq 18, 3) := by decide +kernel
theorem dX1_wouldBelong_146 : decode cX1_wouldBelong 146 = .ok (.iload_n 2, 1) := by decide +kernel
theorem dX1_wouldBelong_147 : decode cX1_wouldBelong 147 = .ok (.iload 4, 2) := by decide +kernel
theorem dX1_wouldBelong_149 : decode cX1_wouldBelong 149 = .ok (.iload 5, 2) := by decide +kernel
theorem dX1_wouldBelong_151 : decode cX1_wouldBelong 151 = .ok (.invokestatic 83, 3) := by decide +kernel
theorem dX1_wouldBelong_154 : decode cX1_wouldBelong 154 = .ok (.if_icmp .ne 7, 3) := by decide +kernel
theorem dX1_wouldBelong_157 : decode cX1_wouldBelong 157 = .ok (.iconst 1, 1) := by decide +kernel
theorem dX1_wouldBelong_158 : decode cX1_wouldBelong 158 = .ok (.goto 4, 3) := by decide +kernel
theorem dX1_wouldBelong_161 : decode cX1_wouldBelong 161 = .ok (.iconst 0, 1) := by decide +kernel
theorem dX1_wouldBelong_162 : decode cX1_wouldBelong 162 = .ok (.ireturn, 1) := by decide +kernel
theorem dX1_wouldBelong_163 : decode cX1_wouldBelong 163 = .ok (.iload 6, 2) := by decide +kernel
theorem dX1_wouldBelong_165 : decode cX1_wouldBelong 165 = .ok (.ifCond .eq 16, 3) := by decide +kernel
theorem dX1_wouldBelong_168 : decode cX1_wouldBelong 168 = .ok (.iload 5, 2) := by decide +kernel
theorem dX1_wouldBelong_170 : decode cX1_wouldBelong 170 = .ok (.iload 4, 2) := by decide +kernel
theorem dX1_wouldBelong_172 : decode cX1_wouldBelong 172 = .ok (.isub, 1) := by decide +kernel
theorem dX1_wouldBelong_173 : decode cX1_wouldBelong 173 = .ok (.iconst 3, 1) := by decide +kernel
theorem dX1_wouldBelong_174 : decode cX1_wouldBelong 174 = .ok (.if_icmp .lt 7, 3) := by decide +kernel
theorem dX1_wouldBelong_177 : decode cX1_wouldBelong 177 = .ok (.iconst 1, 1) := by decide +kernel
theorem dX1_wouldBelong_178 : decode cX1_wouldBelong 178 = .ok (.goto 4, 3) := by decide +kernel
theorem dX1_wouldBelong_181 : decode cX1_wouldBelong 181 = .ok (.iconst 0, 1) := by decide +kernel
theorem dX1_wouldBelong_182 : decode cX1_wouldBelong 182 = .ok (.ireturn, 1) := by decide +kernel
theorem dX1_wouldBelong_183 : decode cX1_wouldBelong 183 = .ok (.iload 6, 2) := by decide +kernel
theorem dX1_wouldBelong_185 : decode cX1_wouldBelong 185 = .ok (.ireturn, 1) := by decide +kernel
theorem dX1_belongs_0 : decode cX1_belongs 0 = .ok (.aload_n 0, 1) := by decide +kernel
theorem dX1_belongs_1 : decode cX1_belongs 1 = .ok (.aload_n 0, 1) := by decide +kernel
theorem dX1_belongs_2 : decode cX1_belongs 2 = .ok (.getfield 39, 3) := by decide +kernel
theorem dX1_belongs_5 : decode cX1_belongs 5 = .ok (.iload_n 1, 1) := by decide +kernel
theorem dX1_belongs_6 : decode cX1_belongs 6 = .ok (.iaload, 1) := by decide +kernel
theorem dX1_belongs_7 : decode cX1_belongs 7 = .ok (.aload_n 0, 1) := by decide +kernel
theorem dX1_belongs_8 : decode cX1_belongs 8 = .ok (.getfield 43, 3) := by decide +kernel
theorem dX1_belongs_11 : decode cX1_belongs 11 = .ok (.iload_n 1, 1) := by decide +kernel
theorem dX1_belongs_12 : decode cX1_belongs 12 = .ok (.iaload, 1) := by decide +kernel
theorem dX1_belongs_13 : decode cX1_belongs 13 = .ok (.aload_n 0, 1) := by decide +kernel
theorem dX1_belongs_14 : decode cX1_belongs 14 = .ok (.getfield 46, 3) := by decide +kernel
theorem dX1_belongs_17 : decode cX1_belongs 17 = .ok (.iload_n 1, 1) := by decide +kernel
theorem dX1_belongs_18 : decode cX1_belongs 18 = .ok (.iaload, 1) := by decide +kernel
theorem dX1_belongs_19 : decode cX1_belongs 19 = .ok (.aload_n 0, 1) := by decide +kernel
theorem dX1_belongs_20 : decode cX1_belongs 20 = .ok (.getfield 15, 3) := by decide +kernel
theorem dX1_belongs_23 : decode cX1_belongs 23 = .ok (.aload_n 0, 1) := by decide +kernel
theorem dX1_belongs_24 : decode cX1_belongs 24 = .ok (.getfield 18, 3) := by decide +kernel
theorem dX1_belongs_27 : decode cX1_belongs 27 = .ok (.invokevirtual 86, 3) := by decide +kernel
theorem dX1_belongs_30 : decode cX1_belongs 30 = .ok (.ireturn, 1) := by decide +kernel
theorem dX1_belonging_0 : decode cX1_belonging 0 = .ok (.iconst 0, 1) := by decide +kernel
theorem dX1_belonging_1 : decode cX1_belonging 1 = .ok (.istore_n 3, 1) := by decide +kernel
theorem dX1_belonging_2 : decode cX1_belonging 2 = .ok (.iconst 0, 1) := by decide +kernel
theorem dX1_belonging_3 : decode cX1_belonging 3 = .ok (.istore 4, 2) := by decide +kernel
theorem dX1_belonging_5 : decode cX1_belonging 5 = .ok (.iload 4, 2) := by decide +kernel
theorem dX1_belonging_7 : decode cX1_belonging 7 = .ok (.aload_n 0, 1) := by decide +kernel
theorem dX1_belonging_8 : decode cX1_belonging 8 = .ok (.getfield 36, 3) := by decide +kernel
theorem dX1_belonging_11 : decode cX1_belonging 11 = .ok (.if_icmp .ge 46, 3) := by decide +kernel
theorem dX1_belonging_14 : decode cX1_belonging 14 = .ok (.aload_n 0, 1) := by decide +kernel
theorem dX1_belonging_15 : decode cX1_belonging 15 = .ok (.aload_n 0, 1) := by decide +kernel
theorem dX1_belonging_16 : decode cX1_belonging 16 = .ok (.getfield 39, 3) := by decide +kernel
theorem dX1_belonging_19 : decode cX1_belonging 19 = .ok (.iload 4, 2) := by decide +kernel
theorem dX1_belonging_21 : decode cX1_belonging 21 = .ok (.iaload, 1) := by decide +kernel
theorem dX1_belonging_22 : decode cX1_belonging 22 = .ok (.aload_n 0, 1) := by decide +kernel
theorem dX1_belonging_23 : decode cX1_belonging 23 = .ok (.getfield 43, 3) := by decide +kernel
theorem dX1_belonging_26 : decode cX1_belonging 26 = .ok (.iload 4, 2) := by decide +kernel
theorem dX1_belonging_28 : decode cX1_belonging 28 = .ok (.iaload, 1) := by decide +kernel
theorem dX1_belonging_29 : decode cX1_belonging 29 = .ok (.aload_n 0, 1) := by decide +kernel
theorem dX1_belonging_30 : decode cX1_belonging 30 = .ok (.getfield 46, 3) := by decide +kernel
theorem dX1_belonging_33 : decode cX1_belonging 33 = .ok (.iload 4, 2) := by decide +kernel
theorem dX1_belonging_35 : decode cX1_belonging 35 = .ok (.iaload, 1) := by decide +kernel
theorem dX1_belonging_36 : decode cX1_belonging 36 = .ok (.iload_n 1, 1) := by decide +kernel
theorem dX1_belonging_37 : decode cX1_belonging 37 = .ok (.iload_n 2, 1) := by decide +kernel
theorem dX1_belonging_38 : decode cX1_belonging 38 = .ok (.invokevirtual 86, 3) := by decide +kernel
theorem dX1_belonging_41 : decode cX1_belonging 41 = .ok (.ifCond .eq 10, 3) := by decide +kernel
theorem dX1_belonging_44 : decode cX1_belonging 44 = .ok (.iload_n 3, 1) := by decide +kernel
theorem dX1_belonging_45 : decode cX1_belonging 45 = .ok (.iconst 1, 1) := by decide +kernel
theorem dX1_belonging_46 : decode cX1_belonging 46 = .ok (.iload 4, 2) := by decide +kernel
theorem dX1_belonging_48 : decode cX1_belonging 48 = .ok (.ishl, 1) := by decide +kernel
theorem dX1_belonging_49 : decode cX1_belonging 49 = .ok (.ior, 1) := by decide +kernel
theorem dX1_belonging_50 : decode cX1_belonging 50 = .ok (.istore_n 3, 1) := by decide +kernel
theorem dX1_belonging_51 : decode cX1_belonging 51 = .ok (.iinc 4 1, 3) := by decide +kernel
theorem dX1_belonging_54 : decode cX1_belonging 54 = .ok (.goto (-49), 3) := by decide +kernel
theorem dX1_belonging_57 : decode cX1_belonging 57 = .ok (.iload_n 3, 1) := by decide +kernel
theorem dX1_belonging_58 : decode cX1_belonging 58 = .ok (.ireturn, 1) := by decide +kernel
theorem dX1_votesOf_0 : decode cX1_votesOf 0 = .ok (.iconst 0, 1) := by decide +kernel
theorem dX1_votesOf_1 : decode cX1_votesOf 1 = .ok (.istore_n 2, 1) := by decide +kernel
theorem dX1_votesOf_2 : decode cX1_votesOf 2 = .ok (.iconst 0, 1) := by decide +kernel
theorem dX1_votesOf_3 : decode cX1_votesOf 3 = .ok (.istore_n 3, 1) := by decide +kernel
theorem dX1_votesOf_4 : decode cX1_votesOf 4 = .ok (.iload_n 3, 1) := by decide +kernel
theorem dX1_votesOf_5 : decode cX1_votesOf 5 = .ok (.aload_n 0, 1) := by decide +kernel
theorem dX1_votesOf_6 : decode cX1_votesOf 6 = .ok (.getfield 36, 3) := by decide +kernel
theorem dX1_votesOf_9 : decode cX1_votesOf 9 = .ok (.if_icmp .ge 25, 3) := by decide +kernel
theorem dX1_votesOf_12 : decode cX1_votesOf 12 = .ok (.iload_n 1, 1) := by decide +kernel
theorem dX1_votesOf_13 : decode cX1_votesOf 13 = .ok (.iload_n 3, 1) := by decide +kernel
theorem dX1_votesOf_14 : decode cX1_votesOf 14 = .ok (.ishr, 1) := by decide +kernel
theorem dX1_votesOf_15 : decode cX1_votesOf 15 = .ok (.iconst 1, 1) := by decide +kernel
theorem dX1_votesOf_16 : decode cX1_votesOf 16 = .ok (.iand, 1) := by decide +kernel
theorem dX1_votesOf_17 : decode cX1_votesOf 17 = .ok (.ifCond .eq 11, 3) := by decide +kernel
theorem dX1_votesOf_20 : decode cX1_votesOf 20 = .ok (.iload_n 2, 1) := by decide +kernel
theorem dX1_votesOf_21 : decode cX1_votesOf 21 = .ok (.aload_n 0, 1) := by decide +kernel
theorem dX1_votesOf_22 : decode cX1_votesOf 22 = .ok (.iload_n 3, 1) := by decide +kernel
theorem dX1_votesOf_23 : decode cX1_votesOf 23 = .ok (.invokevirtual 90, 3) := by decide +kernel
theorem dX1_votesOf_26 : decode cX1_votesOf 26 = .ok (.iadd, 1) := by decide +kernel
theorem dX1_votesOf_27 : decode cX1_votesOf 27 = .ok (.istore_n 2, 1) := by decide +kernel
theorem dX1_votesOf_28 : decode cX1_votesOf 28 = .ok (.iinc 3 1, 3) := by decide +kernel
theorem dX1_votesOf_31 : decode cX1_votesOf 31 = .ok (.goto (-27), 3) := by decide +kernel
theorem dX1_votesOf_34 : decode cX1_votesOf 34 = .ok (.iload_n 2, 1) := by decide +kernel
theorem dX1_votesOf_35 : decode cX1_votesOf 35 = .ok (.ireturn, 1) := by decide +kernel
theorem dX1_mostVotesIn_0 : decode cX1_mostVotesIn 0 = .ok (.iconst 0, 1) := by decide +kernel
theorem dX1_mostVotesIn_1 : decode cX1_mostVotesIn 1 = .ok (.istore_n 2, 1) := by decide +kernel
theorem dX1_mostVotesIn_2 : decode cX1_mostVotesIn 2 = .ok (.iconst 0, 1) := by decide +kernel
theorem dX1_mostVotesIn_3 : decode cX1_mostVotesIn 3 = .ok (.istore_n 3, 1) := by decide +kernel
theorem dX1_mostVotesIn_4 : decode cX1_mostVotesIn 4 = .ok (.iload_n 3, 1) := by decide +kernel
theorem dX1_mostVotesIn_5 : decode cX1_mostVotesIn 5 = .ok (.aload_n 0, 1) := by decide +kernel
theorem dX1_mostVotesIn_6 : decode cX1_mostVotesIn 6 = .ok (.getfield 36, 3) := by decide +kernel
theorem dX1_mostVotesIn_9 : decode cX1_mostVotesIn 9 = .ok (.if_icmp .ge 27, 3) := by decide +kernel
theorem dX1_mostVotesIn_12 : decode cX1_mostVotesIn 12 = .ok (.iload_n 1, 1) := by decide +kernel
theorem dX1_mostVotesIn_13 : decode cX1_mostVotesIn 13 = .ok (.iload_n 3, 1) := by decide +kernel
theorem dX1_mostVotesIn_14 : decode cX1_mostVotesIn 14 = .ok (.ishr, 1) := by decide +kernel
theorem dX1_mostVotesIn_15 : decode cX1_mostVotesIn 15 = .ok (.iconst 1, 1) := by decide +kernel
theorem dX1_mostVotesIn_16 : decode cX1_mostVotesIn 16 = .ok (.iand, 1) := by decide +kernel
theorem dX1_mostVotesIn_17 : decode cX1_mostVotesIn 17 = .ok (.ifCond .eq 13, 3) := by decide +kernel
theorem dX1_mostVotesIn_20 : decode cX1_mostVotesIn 20 = .ok (.iload_n 2, 1) := by decide +kernel
theorem dX1_mostVotesIn_21 : decode cX1_mostVotesIn 21 = .ok (.aload_n 0, 1) := by decide +kernel
theorem dX1_mostVotesIn_22 : decode cX1_mostVotesIn 22 = .ok (.iload_n 3, 1) := by decide +kernel
theorem dX1_mostVotesIn_23 : decode cX1_mostVotesIn 23 = .ok (.invokevirtual 90, 3) := by decide +kernel
theorem dX1_mostVotesIn_26 : decode cX1_mostVotesIn 26 = .ok (.invokestatic 94, 3) := by decide +kernel
theorem dX1_mostVotesIn_29 : decode cX1_mostVotesIn 29 = .ok (.istore_n 2, 1) := by decide +kernel
theorem dX1_mostVotesIn_30 : decode cX1_mostVotesIn 30 = .ok (.iinc 3 1, 3) := by decide +kernel
theorem dX1_mostVotesIn_33 : decode cX1_mostVotesIn 33 = .ok (.goto (-29), 3) := by decide +kernel
theorem dX1_mostVotesIn_36 : decode cX1_mostVotesIn 36 = .ok (.iload_n 2, 1) := by decide +kernel
theorem dX1_mostVotesIn_37 : decode cX1_mostVotesIn 37 = .ok (.ireturn, 1) := by decide +kernel
theorem dX1_votesBelonging_0 : decode cX1_votesBelonging 0 = .ok (.aload_n 0, 1) := by decide +kernel
theorem dX1_votesBelonging_1 : decode cX1_votesBelonging 1 = .ok (.aload_n 0, 1) := by decide +kernel
theorem dX1_votesBelonging_2 : decode cX1_votesBelonging 2 = .ok (.iload_n 1, 1) := by decide +kernel
theorem dX1_votesBelonging_3 : decode cX1_votesBelonging 3 = .ok (.iload_n 2, 1) := by decide +kernel
theorem dX1_votesBelonging_4 : decode cX1_votesBelonging 4 = .ok (.invokevirtual 99, 3) := by decide +kernel
theorem dX1_votesBelonging_7 : decode cX1_votesBelonging 7 = .ok (.invokevirtual 102, 3) := by decide +kernel
theorem dX1_votesBelonging_10 : decode cX1_votesBelonging 10 = .ok (.ireturn, 1) := by decide +kernel
theorem dX1_votesOfWest_0 : decode cX1_votesOfWest 0 = .ok (.aload_n 0, 1) := by decide +kernel
theorem dX1_votesOfWest_1 : decode cX1_votesOfWest 1 = .ok (.iconst 0, 1) := by decide +kernel
theorem dX1_votesOfWest_2 : decode cX1_votesOfWest 2 = .ok (.iload_n 1, 1) := by decide +kernel
theorem dX1_votesOfWest_3 : decode cX1_votesOfWest 3 = .ok (.iload_n 1, 1) := by decide +kernel
theorem dX1_votesOfWest_4 : decode cX1_votesOfWest 4 = .ok (.iload_n 2, 1) := by decide +kernel
theorem dX1_votesOfWest_5 : decode cX1_votesOfWest 5 = .ok (.invokevirtual 105, 3) := by decide +kernel
theorem dX1_votesOfWest_8 : decode cX1_votesOfWest 8 = .ok (.ireturn, 1) := by decide +kernel
theorem dX1_votesOfEast_0 : decode cX1_votesOfEast 0 = .ok (.aload_n 0, 1) := by decide +kernel
theorem dX1_votesOfEast_1 : decode cX1_votesOfEast 1 = .ok (.iload_n 2, 1) := by decide +kernel
theorem dX1_votesOfEast_2 : decode cX1_votesOfEast 2 = .ok (.aload_n 0, 1) := by decide +kernel
theorem dX1_votesOfEast_3 : decode cX1_votesOfEast 3 = .ok (.getfield 9, 3) := by decide +kernel
theorem dX1_votesOfEast_6 : decode cX1_votesOfEast 6 = .ok (.iload_n 1, 1) := by decide +kernel
theorem dX1_votesOfEast_7 : decode cX1_votesOfEast 7 = .ok (.iload_n 2, 1) := by decide +kernel
theorem dX1_votesOfEast_8 : decode cX1_votesOfEast 8 = .ok (.invokevirtual 105, 3) := by decide +kernel
theorem dX1_votesOfEast_11 : decode cX1_votesOfEast 11 = .ok (.ireturn, 1) := by decide +kernel
theorem dX1_votesOfStrangers_0 : decode cX1_votesOfStrangers 0 = .ok (.iconst 0, 1) := by decide +kernel
theorem dX1_votesOfStrangers_1 : decode cX1_votesOfStrangers 1 = .ok (.istore 5, 2) := by decide +kernel
theorem dX1_votesOfStrangers_3 : decode cX1_votesOfStrangers 3 = .ok (.iconst 0, 1) := by decide +kernel
theorem dX1_votesOfStrangers_4 : decode cX1_votesOfStrangers 4 = .ok (.istore 6, 2) := by decide +kernel
theorem dX1_votesOfStrangers_6 : decode cX1_votesOfStrangers 6 = .ok (.iload 6, 2) := by decide +kernel
theorem dX1_votesOfStrangers_8 : decode cX1_votesOfStrangers 8 = .ok (.aload_n 0, 1) := by decide +kernel
theorem dX1_votesOfStrangers_9 : decode cX1_votesOfStrangers 9 = .ok (.getfield 36, 3) := by decide +kernel
theorem dX1_votesOfStrangers_12 : decode cX1_votesOfStrangers 12 = .ok (.if_icmp .ge 73, 3) := by decide +kernel
theorem dX1_votesOfStrangers_15 : decode cX1_votesOfStrangers 15 = .ok (.iload_n 1, 1) := by decide +kernel
theorem dX1_votesOfStrangers_16 : decode cX1_votesOfStrangers 16 = .ok (.aload_n 0, 1) := by decide +kernel
theorem dX1_votesOfStrangers_17 : decode cX1_votesOfStrangers 17 = .ok (.getfield 43, 3) := by decide +kernel
theorem dX1_votesOfStrangers_20 : decode cX1_votesOfStrangers 20 = .ok (.iload 6, 2) := by decide +kernel
theorem dX1_votesOfStrangers_22 : decode cX1_votesOfStrangers 22 = .ok (.iaload, 1) := by decide +kernel
theorem dX1_votesOfStrangers_23 : decode cX1_votesOfStrangers 23 = .ok (.if_icmp .gt 56, 3) := by decide +kernel
theorem dX1_votesOfStrangers_26 : decode cX1_votesOfStrangers 26 = .ok (.aload_n 0, 1) := by decide +kernel
theorem dX1_votesOfStrangers_27 : decode cX1_votesOfStrangers 27 = .ok (.getfield 43, 3) := by decide +kernel
theorem dX1_votesOfStrangers_30 : decode cX1_votesOfStrangers 30 = .ok (.iload 6, 2) := by decide +kernel
theorem dX1_votesOfStrangers_32 : decode cX1_votesOfStrangers 32 = .ok (.iaload, 1) := by decide +kernel
theorem dX1_votesOfStrangers_33 : decode cX1_votesOfStrangers 33 = .ok (.iload_n 2, 1) := by decide +kernel
theorem dX1_votesOfStrangers_34 : decode cX1_votesOfStrangers 34 = .ok (.if_icmp .ge 45, 3) := by decide +kernel
theorem dX1_votesOfStrangers_37 : decode cX1_votesOfStrangers 37 = .ok (.aload_n 0, 1) := by decide +kernel
theorem dX1_votesOfStrangers_38 : decode cX1_votesOfStrangers 38 = .ok (.aload_n 0, 1) := by decide +kernel
theorem dX1_votesOfStrangers_39 : decode cX1_votesOfStrangers 39 = .ok (.getfield 39, 3) := by decide +kernel
theorem dX1_votesOfStrangers_42 : decode cX1_votesOfStrangers 42 = .ok (.iload 6, 2) := by decide +kernel
theorem dX1_votesOfStrangers_44 : decode cX1_votesOfStrangers 44 = .ok (.iaload, 1) := by decide +kernel
theorem dX1_votesOfStrangers_45 : decode cX1_votesOfStrangers 45 = .ok (.aload_n 0, 1) := by decide +kernel
theorem dX1_votesOfStrangers_46 : decode cX1_votesOfStrangers 46 = .ok (.getfield 43, 3) := by decide +kernel
theorem dX1_votesOfStrangers_49 : decode cX1_votesOfStrangers 49 = .ok (.iload 6, 2) := by decide +kernel
theorem dX1_votesOfStrangers_51 : decode cX1_votesOfStrangers 51 = .ok (.iaload, 1) := by decide +kernel
theorem dX1_votesOfStrangers_52 : decode cX1_votesOfStrangers 52 = .ok (.aload_n 0, 1) := by decide +kernel
theorem dX1_votesOfStrangers_53 : decode cX1_votesOfStrangers 53 = .ok (.getfield 46, 3) := by decide +kernel
theorem dX1_votesOfStrangers_56 : decode cX1_votesOfStrangers 56 = .ok (.iload 6, 2) := by decide +kernel
theorem dX1_votesOfStrangers_58 : decode cX1_votesOfStrangers 58 = .ok (.iaload, 1) := by decide +kernel
theorem dX1_votesOfStrangers_59 : decode cX1_votesOfStrangers 59 = .ok (.iload_n 3, 1) := by decide +kernel
theorem dX1_votesOfStrangers_60 : decode cX1_votesOfStrangers 60 = .ok (.iload 4, 2) := by decide +kernel
theorem dX1_votesOfStrangers_62 : decode cX1_votesOfStrangers 62 = .ok (.invokevirtual 86, 3) := by decide +kernel
theorem dX1_votesOfStrangers_65 : decode cX1_votesOfStrangers 65 = .ok (.ifCond .ne 14, 3) := by decide +kernel
theorem dX1_votesOfStrangers_68 : decode cX1_votesOfStrangers 68 = .ok (.iload 5, 2) := by decide +kernel
theorem dX1_votesOfStrangers_70 : decode cX1_votesOfStrangers 70 = .ok (.aload_n 0, 1) := by decide +kernel
theorem dX1_votesOfStrangers_71 : decode cX1_votesOfStrangers 71 = .ok (.iload 6, 2) := by decide +kernel
theorem dX1_votesOfStrangers_73 : decode cX1_votesOfStrangers 73 = .ok (.invokevirtual 90, 3) := by decide +kernel
theorem dX1_votesOfStrangers_76 : decode cX1_votesOfStrangers 76 = .ok (.iadd, 1) := by decide +kernel
theorem dX1_votesOfStrangers_77 : decode cX1_votesOfStrangers 77 = .ok (.istore 5, 2) := by decide +kernel
theorem dX1_votesOfStrangers_79 : decode cX1_votesOfStrangers 79 = .ok (.iinc 6 1, 3) := by decide +kernel
theorem dX1_votesOfStrangers_82 : decode cX1_votesOfStrangers 82 = .ok (.goto (-76), 3) := by decide +kernel
theorem dX1_votesOfStrangers_85 : decode cX1_votesOfStrangers 85 = .ok (.iload 5, 2) := by decide +kernel
theorem dX1_votesOfStrangers_87 : decode cX1_votesOfStrangers 87 = .ok (.ireturn, 1) := by decide +kernel
theorem dX1_votesFor_0 : decode cX1_votesFor 0 = .ok (.iconst 0, 1) := by decide +kernel
theorem dX1_votesFor_1 : decode cX1_votesFor 1 = .ok (.istore_n 2, 1) := by decide +kernel
theorem dX1_votesFor_2 : decode cX1_votesFor 2 = .ok (.iconst 0, 1) := by decide +kernel
theorem dX1_votesFor_3 : decode cX1_votesFor 3 = .ok (.istore_n 3, 1) := by decide +kernel
theorem dX1_votesFor_4 : decode cX1_votesFor 4 = .ok (.iload_n 3, 1) := by decide +kernel
theorem dX1_votesFor_5 : decode cX1_votesFor 5 = .ok (.aload_n 0, 1) := by decide +kernel
theorem dX1_votesFor_6 : decode cX1_votesFor 6 = .ok (.getfield 36, 3) := by decide +kernel
theorem dX1_votesFor_9 : decode cX1_votesFor 9 = .ok (.if_icmp .ge 36, 3) := by decide +kernel
theorem dX1_votesFor_12 : decode cX1_votesFor 12 = .ok (.aload_n 0, 1) := by decide +kernel
theorem dX1_votesFor_13 : decode cX1_votesFor 13 = .ok (.iload_n 3, 1) := by decide +kernel
theorem dX1_votesFor_14 : decode cX1_votesFor 14 = .ok (.invokevirtual 109, 3) := by decide +kernel
theorem dX1_votesFor_17 : decode cX1_votesFor 17 = .ok (.ifCond .eq 22, 3) := by decide +kernel
theorem dX1_votesFor_20 : decode cX1_votesFor 20 = .ok (.aload_n 0, 1) := by decide +kernel
theorem dX1_votesFor_21 : decode cX1_votesFor 21 = .ok (.getfield 52, 3) := by decide +kernel
theorem dX1_votesFor_24 : decode cX1_votesFor 24 = .ok (.iload_n 3, 1) := by decide +kernel
theorem dX1_votesFor_25 : decode cX1_votesFor 25 = .ok (.iaload, 1) := by decide +kernel
theorem dX1_votesFor_26 : decode cX1_votesFor 26 = .ok (.iload_n 1, 1) := by decide +kernel
theorem dX1_votesFor_27 : decode cX1_votesFor 27 = .ok (.iand, 1) := by decide +kernel
theorem dX1_votesFor_28 : decode cX1_votesFor 28 = .ok (.ifCond .eq 11, 3) := by decide +kernel
theorem dX1_votesFor_31 : decode cX1_votesFor 31 = .ok (.iload_n 2, 1) := by decide +kernel
theorem dX1_votesFor_32 : decode cX1_votesFor 32 = .ok (.aload_n 0, 1) := by decide +kernel
theorem dX1_votesFor_33 : decode cX1_votesFor 33 = .ok (.iload_n 3, 1) := by decide +kernel
theorem dX1_votesFor_34 : decode cX1_votesFor 34 = .ok (.invokevirtual 90, 3) := by decide +kernel
theorem dX1_votesFor_37 : decode cX1_votesFor 37 = .ok (.iadd, 1) := by decide +kernel
theorem dX1_votesFor_38 : decode cX1_votesFor 38 = .ok (.istore_n 2, 1) := by decide +kernel
theorem dX1_votesFor_39 : decode cX1_votesFor 39 = .ok (.iinc 3 1, 3) := by decide +kernel
theorem dX1_votesFor_42 : decode cX1_votesFor 42 = .ok (.goto (-38), 3) := by decide +kernel
theorem dX1_votesFor_45 : decode cX1_votesFor 45 = .ok (.iload_n 2, 1) := by decide +kernel
theorem dX1_votesFor_46 : decode cX1_votesFor 46 = .ok (.ireturn, 1) := by decide +kernel
theorem dX1_farFromStrip_0 : decode cX1_farFromStrip 0 = .ok (.aload_n 0, 1) := by decide +kernel
theorem dX1_farFromStrip_1 : decode cX1_farFromStrip 1 = .ok (.getfield 18, 3) := by decide +kernel
theorem dX1_farFromStrip_4 : decode cX1_farFromStrip 4 = .ok (.aload_n 0, 1) := by decide +kernel
theorem dX1_farFromStrip_5 : decode cX1_farFromStrip 5 = .ok (.getfield 15, 3) := by decide +kernel
theorem dX1_farFromStrip_8 : decode cX1_farFromStrip 8 = .ok (.if_icmp .ne 13, 3) := by decide +kernel
theorem dX1_farFromStrip_11 : decode cX1_farFromStrip 11 = .ok (.iload_n 1, 1) := by decide +kernel
theorem dX1_farFromStrip_12 : decode cX1_farFromStrip 12 = .ok (.aload_n 0, 1) := by decide +kernel
theorem dX1_farFromStrip_13 : decode cX1_farFromStrip 13 = .ok (.getfield 15, 3) := by decide +kernel
theorem dX1_farFromStrip_16 : decode cX1_farFromStrip 16 = .ok (.isub, 1) := by decide +kernel
theorem dX1_farFromStrip_17 : decode cX1_farFromStrip 17 = .ok (.invokestatic 113, 3) := by decide +kernel
theorem dX1_farFromStrip_20 : decode cX1_farFromStrip 20 = .ok (.ireturn, 1) := by decide +kernel
theorem dX1_farFromStrip_21 : decode cX1_farFromStrip 21 = .ok (.iconst 0, 1) := by decide +kernel
theorem dX1_farFromStrip_22 : decode cX1_farFromStrip 22 = .ok (.aload_n 0, 1) := by decide +kernel
theorem dX1_farFromStrip_23 : decode cX1_farFromStrip 23 = .ok (.getfield 15, 3) := by decide +kernel
theorem dX1_farFromStrip_26 : decode cX1_farFromStrip 26 = .ok (.iload_n 1, 1) := by decide +kernel
theorem dX1_farFromStrip_27 : decode cX1_farFromStrip 27 = .ok (.isub, 1) := by decide +kernel
theorem dX1_farFromStrip_28 : decode cX1_farFromStrip 28 = .ok (.iload_n 1, 1) := by decide +kernel
theorem dX1_farFromStrip_29 : decode cX1_farFromStrip 29 = .ok (.aload_n 0, 1) := by decide +kernel
theorem dX1_farFromStrip_30 : decode cX1_farFromStrip 30 = .ok (.getfield 18, 3) := by decide +kernel
theorem dX1_farFromStrip_33 : decode cX1_farFromStrip 33 = .ok (.iconst 1, 1) := by decide +kernel
theorem dX1_farFromStrip_34 : decode cX1_farFromStrip 34 = .ok (.isub, 1) := by decide +kernel
theorem dX1_farFromStrip_35 : decode cX1_farFromStrip 35 = .ok (.isub, 1) := by decide +kernel
theorem dX1_farFromStrip_36 : decode cX1_farFromStrip 36 = .ok (.invokestatic 94, 3) := by decide +kernel
theorem dX1_farFromStrip_39 : decode cX1_farFromStrip 39 = .ok (.invokestatic 94, 3) := by decide +kernel
theorem dX1_farFromStrip_42 : decode cX1_farFromStrip 42 = .ok (.ireturn, 1) := by decide +kernel
theorem dX1_othersWith_0 : decode cX1_othersWith 0 = .ok (.iconst 0, 1) := by decide +kernel
theorem dX1_othersWith_1 : decode cX1_othersWith 1 = .ok (.istore_n 2, 1) := by decide +kernel
theorem dX1_othersWith_2 : decode cX1_othersWith 2 = .ok (.iconst 0, 1) := by decide +kernel
theorem dX1_othersWith_3 : decode cX1_othersWith 3 = .ok (.istore_n 3, 1) := by decide +kernel
theorem dX1_othersWith_4 : decode cX1_othersWith 4 = .ok (.iload_n 3, 1) := by decide +kernel
theorem dX1_othersWith_5 : decode cX1_othersWith 5 = .ok (.aload_n 0, 1) := by decide +kernel
theorem dX1_othersWith_6 : decode cX1_othersWith 6 = .ok (.getfield 36, 3) := by decide +kernel
theorem dX1_othersWith_9 : decode cX1_othersWith 9 = .ok (.if_icmp .ge 32, 3) := by decide +kernel
theorem dX1_othersWith_12 : decode cX1_othersWith 12 = .ok (.iload_n 3, 1) := by decide +kernel
theorem dX1_othersWith_13 : decode cX1_othersWith 13 = .ok (.iload_n 1, 1) := by decide +kernel
theorem dX1_othersWith_14 : decode cX1_othersWith 14 = .ok (.if_icmp .eq 21, 3) := by decide +kernel
theorem dX1_othersWith_17 : decode cX1_othersWith 17 = .ok (.aload_n 0, 1) := by decide +kernel
theorem dX1_othersWith_18 : decode cX1_othersWith 18 = .ok (.getfield 43, 3) := by decide +kernel
theorem dX1_othersWith_21 : decode cX1_othersWith 21 = .ok (.iload_n 3, 1) := by decide +kernel
theorem dX1_othersWith_22 : decode cX1_othersWith 22 = .ok (.iaload, 1) := by decide +kernel
theorem dX1_othersWith_23 : decode cX1_othersWith 23 = .ok (.aload_n 0, 1) := by decide +kernel
theorem dX1_othersWith_24 : decode cX1_othersWith 24 = .ok (.getfield 43, 3) := by decide +kernel
theorem dX1_othersWith_27 : decode cX1_othersWith 27 = .ok (.iload_n 1, 1) := by decide +kernel
theorem dX1_othersWith_28 : decode cX1_othersWith 28 = .ok (.iaload, 1) := by decide +kernel
theorem dX1_othersWith_29 : decode cX1_othersWith 29 = .ok (.if_icmp .ne 6, 3) := by decide +kernel
theorem dX1_othersWith_32 : decode cX1_othersWith 32 = .ok (.iinc 2 1, 3) := by decide +kernel
theorem dX1_othersWith_35 : decode cX1_othersWith 35 = .ok (.iinc 3 1, 3) := by decide +kernel
theorem dX1_othersWith_38 : decode cX1_othersWith 38 = .ok (.goto (-34), 3) := by decide +kernel
theorem dX1_othersWith_41 : decode cX1_othersWith 41 = .ok (.iload_n 2, 1) := by decide +kernel
theorem dX1_othersWith_42 : decode cX1_othersWith 42 = .ok (.ireturn, 1) := by decide +kernel
theorem dX1_canMove_0 : decode cX1_canMove 0 = .ok (.iload_n 2, 1) := by decide +kernel
theorem dX1_canMove_1 : decode cX1_canMove 1 = .ok (.iconst (-1), 1) := by decide +kernel
theorem dX1_canMove_2 : decode cX1_canMove 2 = .ok (.if_icmp .ne 15, 3) := by decide +kernel
theorem dX1_canMove_5 : decode cX1_canMove 5 = .ok (.iload 4, 2) := by decide +kernel
theorem dX1_canMove_7 : decode cX1_canMove 7 = .ok (.iload_n 3, 1) := by decide +kernel
theorem dX1_canMove_8 : decode cX1_canMove 8 = .ok (.if_icmp .le 7, 3) := by decide +kernel
theorem dX1_canMove_11 : decode cX1_canMove 11 = .ok (.iconst 1, 1) := by decide +kernel
theorem dX1_canMove_12 : decode cX1_canMove 12 = .ok (.goto 4, 3) := by decide +kernel
theorem dX1_canMove_15 : decode cX1_canMove 15 = .ok (.iconst 0, 1) := by decide +kernel
theorem dX1_canMove_16 : decode cX1_canMove 16 = .ok (.ireturn, 1) := by decide +kernel
theorem dX1_canMove_17 : decode cX1_canMove 17 = .ok (.iload_n 1, 1) := by decide +kernel
theorem dX1_canMove_18 : decode cX1_canMove 18 = .ok (.ifCond .ne 15, 3) := by decide +kernel
theorem dX1_canMove_21 : decode cX1_canMove 21 = .ok (.iload_n 3, 1) := by decide +kernel
theorem dX1_canMove_22 : decode cX1_canMove 22 = .ok (.ifCond .le 7, 3) := by decide +kernel
theorem dX1_canMove_25 : decode cX1_canMove 25 = .ok (.iconst 1, 1) := by decide +kernel
theorem dX1_canMove_26 : decode cX1_canMove 26 = .ok (.goto 21, 3) := by decide +kernel
theorem dX1_canMove_29 : decode cX1_canMove 29 = .ok (.iconst 0, 1) := by decide +kernel
theorem dX1_canMove_30 : decode cX1_canMove 30 = .ok (.goto 17, 3) := by decide +kernel
theorem dX1_canMove_33 : decode cX1_canMove 33 = .ok (.iload 4, 2) := by decide +kernel
theorem dX1_canMove_35 : decode cX1_canMove 35 = .ok (.aload_n 0, 1) := by decide +kernel
theorem dX1_canMove_36 : decode cX1_canMove 36 = .ok (.getfield 9, 3) := by decide +kernel
theorem dX1_canMove_39 : decode cX1_canMove 39 = .ok (.if_icmp .ge 7, 3) := by decide +kernel
theorem dX1_canMove_42 : decode cX1_canMove 42 = .ok (.iconst 1, 1) := by decide +kernel
theorem dX1_canMove_43 : decode cX1_canMove 43 = .ok (.goto 4, 3) := by decide +kernel
theorem dX1_canMove_46 : decode cX1_canMove 46 = .ok (.iconst 0, 1) := by decide +kernel
theorem dX1_canMove_47 : decode cX1_canMove 47 = .ok (.ireturn, 1) := by decide +kernel
theorem dX1_yearOn_0 : decode cX1_yearOn 0 = .ok (.iload_n 1, 1) := by decide +kernel
theorem dX1_yearOn_1 : decode cX1_yearOn 1 = .ok (.invokestatic 116, 3) := by decide +kernel
theorem dX1_yearOn_4 : decode cX1_yearOn 4 = .ok (.istore_n 2, 1) := by decide +kernel
theorem dX1_yearOn_5 : decode cX1_yearOn 5 = .ok (.iload_n 1, 1) := by decide +kernel
theorem dX1_yearOn_6 : decode cX1_yearOn 6 = .ok (.invokestatic 119, 3) := by decide +kernel
theorem dX1_yearOn_9 : decode cX1_yearOn 9 = .ok (.istore_n 3, 1) := by decide +kernel
theorem dX1_yearOn_10 : decode cX1_yearOn 10 = .ok (.aload_n 0, 1) := by decide +kernel
theorem dX1_yearOn_11 : decode cX1_yearOn 11 = .ok (.iload_n 2, 1) := by decide +kernel
theorem dX1_yearOn_12 : decode cX1_yearOn 12 = .ok (.iload_n 3, 1) := by decide +kernel
theorem dX1_yearOn_13 : decode cX1_yearOn 13 = .ok (.invokevirtual 122, 3) := by decide +kernel
theorem dX1_yearOn_16 : decode cX1_yearOn 16 = .ok (.istore 4, 2) := by decide +kernel
theorem dX1_yearOn_18 : decode cX1_yearOn 18 = .ok (.iload 4, 2) := by decide +kernel
theorem dX1_yearOn_20 : decode cX1_yearOn 20 = .ok (.aload_n 0, 1) := by decide +kernel
theorem dX1_yearOn_21 : decode cX1_yearOn 21 = .ok (.iload_n 2, 1) := by decide +kernel
theorem dX1_yearOn_22 : decode cX1_yearOn 22 = .ok (.iload_n 3, 1) := by decide +kernel
theorem dX1_yearOn_23 : decode cX1_yearOn 23 = .ok (.invokevirtual 125, 3) := by decide +kernel
theorem dX1_yearOn_26 : decode cX1_yearOn 26 = .ok (.if_icmp .le 7, 3) := by decide +kernel
theorem dX1_yearOn_29 : decode cX1_yearOn 29 = .ok (.iconst 1, 1) := by decide +kernel
theorem dX1_yearOn_30 : decode cX1_yearOn 30 = .ok (.goto 4, 3) := by decide +kernel
theorem dX1_yearOn_33 : decode cX1_yearOn 33 = .ok (.iconst (-1), 1) := by decide +kernel
theorem dX1_yearOn_34 : decode cX1_yearOn 34 = .ok (.istore 5, 2) := by decide +kernel
theorem dX1_yearOn_36 : decode cX1_yearOn 36 = .ok (.iload 4, 2) := by decide +kernel
theorem dX1_yearOn_38 : decode cX1_yearOn 38 = .ok (.aload_n 0, 1) := by decide +kernel
theorem dX1_yearOn_39 : decode cX1_yearOn 39 = .ok (.iload_n 2, 1) := by decide +kernel
theorem dX1_yearOn_40 : decode cX1_yearOn 40 = .ok (.iload_n 3, 1) := by decide +kernel
theorem dX1_yearOn_41 : decode cX1_yearOn 41 = .ok (.invokevirtual 128, 3) := by decide +kernel
theorem dX1_yearOn_44 : decode cX1_yearOn 44 = .ok (.if_icmp .le 7, 3) := by decide +kernel
theorem dX1_yearOn_47 : decode cX1_yearOn 47 = .ok (.iconst 1, 1) := by decide +kernel
theorem dX1_yearOn_48 : decode cX1_yearOn 48 = .ok (.goto 4, 3) := by decide +kernel
theorem dX1_yearOn_51 : decode cX1_yearOn 51 = .ok (.iconst (-1), 1) := by decide +kernel
theorem dX1_yearOn_52 : decode cX1_yearOn 52 = .ok (.istore 6, 2) := by decide +kernel
theorem dX1_yearOn_54 : decode cX1_yearOn 54 = .ok (.iload 5, 2) := by decide +kernel
theorem dX1_yearOn_56 : decode cX1_yearOn 56 = .ok (.iconst (-1), 1) := by decide +kernel
theorem dX1_yearOn_57 : decode cX1_yearOn 57 = .ok (.if_icmp .ne 20, 3) := by decide +kernel
theorem dX1_yearOn_60 : decode cX1_yearOn 60 = .ok (.iload 6, 2) := by decide +kernel
theorem dX1_yearOn_62 : decode cX1_yearOn 62 = .ok (.iconst (-1), 1) := by decide +kernel
theorem dX1_yearOn_63 : decode cX1_yearOn 63 = .ok (.if_icmp .ne 14, 3) := by decide +kernel
theorem dX1_yearOn_66 : decode cX1_yearOn 66 = .ok (.iload_n 3, 1) := by decide +kernel
theorem dX1_yearOn_67 : decode cX1_yearOn 67 = .ok (.iload_n 2, 1) := by decide +kernel
theorem dX1_yearOn_68 : decode cX1_yearOn 68 = .ok (.isub, 1) := by decide +kernel
theorem dX1_yearOn_69 : decode cX1_yearOn 69 = .ok (.iconst 1, 1) := by decide +kernel
theorem dX1_yearOn_70 : decode cX1_yearOn 70 = .ok (.if_icmp .ne 7, 3) := by decide +kernel
theorem dX1_yearOn_73 : decode cX1_yearOn 73 = .ok (.iconst 1, 1) := by decide +kernel
theorem dX1_yearOn_74 : decode cX1_yearOn 74 = .ok (.goto 4, 3) := by decide +kernel
theorem dX1_yearOn_77 : decode cX1_yearOn 77 = .ok (.iconst 0, 1) := by decide +kernel
theorem dX1_yearOn_78 : decode cX1_yearOn 78 = .ok (.istore 7, 2) := by decide +kernel
theorem dX1_yearOn_80 : decode cX1_yearOn 80 = .ok (.aload_n 0, 1) := by decide +kernel
theorem dX1_yearOn_81 : decode cX1_yearOn 81 = .ok (.iconst 0, 1) := by decide +kernel
theorem dX1_yearOn_82 : decode cX1_yearOn 82 = .ok (.iload 5, 2) := by decide +kernel
theorem dX1_yearOn_84 : decode cX1_yearOn 84 = .ok (.iload_n 2, 1) := by decide +kernel
theorem dX1_yearOn_85 : decode cX1_yearOn 85 = .ok (.iload_n 3, 1) := by decide +kernel
theorem dX1_yearOn_86 : decode cX1_yearOn 86 = .ok (.invokevirtual 131, 3) := by decide +kernel
theorem dX1_yearOn_89 : decode cX1_yearOn 89 = .ok (.ifCond .eq 10, 3) := by decide +kernel
theorem dX1_yearOn_92 : decode cX1_yearOn 92 = .ok (.iload_n 2, 1) := by decide +kernel
theorem dX1_yearOn_93 : decode cX1_yearOn 93 = .ok (.iload 5, 2) := by decide +kernel
theorem dX1_yearOn_95 : decode cX1_yearOn 95 = .ok (.isub, 1) := by decide +kernel
theorem dX1_yearOn_96 : decode cX1_yearOn 96 = .ok (.goto 4, 3) := by decide +kernel
theorem dX1_yearOn_99 : decode cX1_yearOn 99 = .ok (.iload_n 2, 1) := by decide +kernel
theorem dX1_yearOn_100 : decode cX1_yearOn 100 = .ok (.istore 8, 2) := by decide +kernel
theorem dX1_yearOn_102 : decode cX1_yearOn 102 = .ok (.aload_n 0, 1) := by decide +kernel
theorem dX1_yearOn_103 : decode cX1_yearOn 103 = .ok (.iconst 1, 1) := by decide +kernel
theorem dX1_yearOn_104 : decode cX1_yearOn 104 = .ok (.iload 6, 2) := by decide +kernel
theorem dX1_yearOn_106 : decode cX1_yearOn 106 = .ok (.iload_n 2, 1) := by decide +kernel
theorem dX1_yearOn_107 : decode cX1_yearOn 107 = .ok (.iload_n 3, 1) := by decide +kernel
theorem dX1_yearOn_108 : decode cX1_yearOn 108 = .ok (.invokevirtual 131, 3) := by decide +kernel
theorem dX1_yearOn_111 : decode cX1_yearOn 111 = .ok (.ifCond .eq 15, 3) := by decide +kernel
theorem dX1_yearOn_114 : decode cX1_yearOn 114 = .ok (.iload 7, 2) := by decide +kernel
theorem dX1_yearOn_116 : decode cX1_yearOn 116 = .ok (.ifCond .ne 10, 3) := by decide +kernel
theorem dX1_yearOn_119 : decode cX1_yearOn 119 = .ok (.iload_n 3, 1) := by decide +kernel
theorem dX1_yearOn_120 : decode cX1_yearOn 120 = .ok (.iload 6, 2) := by decide +kernel
theorem dX1_yearOn_122 : decode cX1_yearOn 122 = .ok (.iadd, 1) := by decide +kernel
theorem dX1_yearOn_123 : decode cX1_yearOn 123 = .ok (.goto 4, 3) := by decide +kernel
theorem dX1_yearOn_126 : decode cX1_yearOn 126 = .ok (.iload_n 3, 1) := by decide +kernel
theorem dX1_yearOn_127 : decode cX1_yearOn 127 = .ok (.istore 9, 2) := by decide +kernel
theorem dX1_yearOn_129 : decode cX1_yearOn 129 = .ok (.iload 8, 2) := by decide +kernel
theorem dX1_yearOn_131 : decode cX1_yearOn 131 = .ok (.iload 9, 2) := by decide +kernel
theorem dX1_yearOn_133 : decode cX1_yearOn 133 = .ok (.invokestatic 65, 3) := by decide +kernel
theorem dX1_yearOn_136 : decode cX1_yearOn 136 = .ok (.ireturn, 1) := by decide +kernel
theorem dX1_act_0 : decode cX1_act 0 = .ok (.aload_n 0, 1) := by decide +kernel
theorem dX1_act_1 : decode cX1_act 1 = .ok (.iconst 1, 1) := by decide +kernel
theorem dX1_act_2 : decode cX1_act 2 = .ok (.invokevirtual 135, 3) := by decide +kernel
theorem dX1_act_5 : decode cX1_act 5 = .ok (.ifCond .eq 12, 3) := by decide +kernel
theorem dX1_act_8 : decode cX1_act 8 = .ok (.aload_n 0, 1) := by decide +kernel
theorem dX1_act_9 : decode cX1_act 9 = .ok (.iload 4, 2) := by decide +kernel
theorem dX1_act_11 : decode cX1_act 11 = .ok (.invokevirtual 138, 3) := by decide +kernel
theorem dX1_act_14 : decode cX1_act 14 = .ok (.ifCond .ne 4, 3) := by decide +kernel
theorem dX1_act_17 : decode cX1_act 17 = .ok (.return_, 1) := by decide +kernel
theorem dX1_act_18 : decode cX1_act 18 = .ok (.aload_n 0, 1) := by decide +kernel
theorem dX1_act_19 : decode cX1_act 19 = .ok (.getfield 58, 3) := by decide +kernel
theorem dX1_act_22 : decode cX1_act 22 = .ok (.getfield 62, 3) := by decide +kernel
theorem dX1_act_25 : decode cX1_act 25 = .ok (.istore 6, 2) := by decide +kernel
theorem dX1_act_27 : decode cX1_act 27 = .ok (.aload_n 0, 1) := by decide +kernel
theorem dX1_act_28 : decode cX1_act 28 = .ok (.getfield 58, 3) := by decide +kernel
theorem dX1_act_31 : decode cX1_act 31 = .ok (.getfield 141, 3) := by decide +kernel
theorem dX1_act_34 : decode cX1_act 34 = .ok (.iload 6, 2) := by decide +kernel
theorem dX1_act_36 : decode cX1_act 36 = .ok (.iload_n 1, 1) := by decide +kernel
theorem dX1_act_37 : decode cX1_act 37 = .ok (.iastore, 1) := by decide +kernel
theorem dX1_act_38 : decode cX1_act 38 = .ok (.aload_n 0, 1) := by decide +kernel
theorem dX1_act_39 : decode cX1_act 39 = .ok (.getfield 58, 3) := by decide +kernel
theorem dX1_act_42 : decode cX1_act 42 = .ok (.getfield 144, 3) := by decide +kernel
theorem dX1_act_45 : decode cX1_act 45 = .ok (.iload 6, 2) := by decide +kernel
theorem dX1_act_47 : decode cX1_act 47 = .ok (.iload_n 2, 1) := by decide +kernel
theorem dX1_act_48 : decode cX1_act 48 = .ok (.iastore, 1) := by decide +kernel
theorem dX1_act_49 : decode cX1_act 49 = .ok (.aload_n 0, 1) := by decide +kernel
theorem dX1_act_50 : decode cX1_act 50 = .ok (.getfield 58, 3) := by decide +kernel
theorem dX1_act_53 : decode cX1_act 53 = .ok (.getfield 147, 3) := by decide +kernel
theorem dX1_act_56 : decode cX1_act 56 = .ok (.iload 6, 2) := by decide +kernel
theorem dX1_act_58 : decode cX1_act 58 = .ok (.iload_n 3, 1) := by decide +kernel
theorem dX1_act_59 : decode cX1_act 59 = .ok (.iastore, 1) := by decide +kernel
theorem dX1_act_60 : decode cX1_act 60 = .ok (.aload_n 0, 1) := by decide +kernel
theorem dX1_act_61 : decode cX1_act 61 = .ok (.getfield 58, 3) := by decide +kernel
theorem dX1_act_64 : decode cX1_act 64 = .ok (.getfield 150, 3) := by decide +kernel
theorem dX1_act_67 : decode cX1_act 67 = .ok (.iload 6, 2) := by decide +kernel
theorem dX1_act_69 : decode cX1_act 69 = .ok (.iload 4, 2) := by decide +kernel
theorem dX1_act_71 : decode cX1_act 71 = .ok (.iastore, 1) := by decide +kernel
theorem dX1_act_72 : decode cX1_act 72 = .ok (.aload_n 0, 1) := by decide +kernel
theorem dX1_act_73 : decode cX1_act 73 = .ok (.getfield 58, 3) := by decide +kernel
theorem dX1_act_76 : decode cX1_act 76 = .ok (.getfield 153, 3) := by decide +kernel
theorem dX1_act_79 : decode cX1_act 79 = .ok (.iload 6, 2) := by decide +kernel
theorem dX1_act_81 : decode cX1_act 81 = .ok (.iload 5, 2) := by decide +kernel
theorem dX1_act_83 : decode cX1_act 83 = .ok (.iastore, 1) := by decide +kernel
theorem dX1_act_84 : decode cX1_act 84 = .ok (.aload_n 0, 1) := by decide +kernel
theorem dX1_act_85 : decode cX1_act 85 = .ok (.getfield 58, 3) := by decide +kernel
theorem dX1_act_88 : decode cX1_act 88 = .ok (.iload 6, 2) := by decide +kernel
theorem dX1_act_90 : decode cX1_act 90 = .ok (.iconst 1, 1) := by decide +kernel
theorem dX1_act_91 : decode cX1_act 91 = .ok (.iadd, 1) := by decide +kernel
theorem dX1_act_92 : decode cX1_act 92 = .ok (.putfield 62, 3) := by decide +kernel
theorem dX1_act_95 : decode cX1_act 95 = .ok (.aload_n 0, 1) := by decide +kernel
theorem dX1_act_96 : decode cX1_act 96 = .ok (.dup, 1) := by decide +kernel
theorem dX1_act_97 : decode cX1_act 97 = .ok (.getfield 15, 3) := by decide +kernel
theorem dX1_act_100 : decode cX1_act 100 = .ok (.iload_n 1, 1) := by decide +kernel
theorem dX1_act_101 : decode cX1_act 101 = .ok (.iadd, 1) := by decide +kernel
theorem dX1_act_102 : decode cX1_act 102 = .ok (.putfield 15, 3) := by decide +kernel
theorem dX1_act_105 : decode cX1_act 105 = .ok (.aload_n 0, 1) := by decide +kernel
theorem dX1_act_106 : decode cX1_act 106 = .ok (.dup, 1) := by decide +kernel
theorem dX1_act_107 : decode cX1_act 107 = .ok (.getfield 18, 3) := by decide +kernel
theorem dX1_act_110 : decode cX1_act 110 = .ok (.iload_n 2, 1) := by decide +kernel
theorem dX1_act_111 : decode cX1_act 111 = .ok (.iadd, 1) := by decide +kernel
theorem dX1_act_112 : decode cX1_act 112 = .ok (.putfield 18, 3) := by decide +kernel
theorem dX1_act_115 : decode cX1_act 115 = .ok (.aload_n 0, 1) := by decide +kernel
theorem dX1_act_116 : decode cX1_act 116 = .ok (.dup, 1) := by decide +kernel
theorem dX1_act_117 : decode cX1_act 117 = .ok (.getfield 33, 3) := by decide +kernel
theorem dX1_act_120 : decode cX1_act 120 = .ok (.iload_n 3, 1) := by decide +kernel
theorem dX1_act_121 : decode cX1_act 121 = .ok (.iadd, 1) := by decide +kernel
theorem dX1_act_122 : decode cX1_act 122 = .ok (.putfield 33, 3) := by decide +kernel
theorem dX1_act_125 : decode cX1_act 125 = .ok (.aload_n 0, 1) := by decide +kernel
theorem dX1_act_126 : decode cX1_act 126 = .ok (.getfield 43, 3) := by decide +kernel
theorem dX1_act_129 : decode cX1_act 129 = .ok (.iload 4, 2) := by decide +kernel
theorem dX1_act_131 : decode cX1_act 131 = .ok (.dup2, 1) := by decide +kernel
theorem dX1_act_132 : decode cX1_act 132 = .ok (.iaload, 1) := by decide +kernel
theorem dX1_act_133 : decode cX1_act 133 = .ok (.iload 5, 2) := by decide +kernel
theorem dX1_act_135 : decode cX1_act 135 = .ok (.iadd, 1) := by decide +kernel
theorem dX1_act_136 : decode cX1_act 136 = .ok (.iastore, 1) := by decide +kernel
theorem dX1_act_137 : decode cX1_act 137 = .ok (.return_, 1) := by decide +kernel
theorem dX1_takeBack_0 : decode cX1_takeBack 0 = .ok (.iconst 0, 1) := by decide +kernel
theorem dX1_takeBack_1 : decode cX1_takeBack 1 = .ok (.istore_n 2, 1) := by decide +kernel
theorem dX1_takeBack_2 : decode cX1_takeBack 2 = .ok (.iload_n 2, 1) := by decide +kernel
theorem dX1_takeBack_3 : decode cX1_takeBack 3 = .ok (.iload_n 1, 1) := by decide +kernel
theorem dX1_takeBack_4 : decode cX1_takeBack 4 = .ok (.if_icmp .ge 117, 3) := by decide +kernel
theorem dX1_takeBack_7 : decode cX1_takeBack 7 = .ok (.aload_n 0, 1) := by decide +kernel
theorem dX1_takeBack_8 : decode cX1_takeBack 8 = .ok (.getfield 58, 3) := by decide +kernel
theorem dX1_takeBack_11 : decode cX1_takeBack 11 = .ok (.getfield 62, 3) := by decide +kernel
theorem dX1_takeBack_14 : decode cX1_takeBack 14 = .ok (.ifCond .le 107, 3) := by decide +kernel
theorem dX1_takeBack_17 : decode cX1_takeBack 17 = .ok (.aload_n 0, 1) := by decide +kernel
theorem dX1_takeBack_18 : decode cX1_takeBack 18 = .ok (.getfield 58, 3) := by decide +kernel
theorem dX1_takeBack_21 : decode cX1_takeBack 21 = .ok (.getfield 62, 3) := by decide +kernel
theorem dX1_takeBack_24 : decode cX1_takeBack 24 = .ok (.iconst 1, 1) := by decide +kernel
theorem dX1_takeBack_25 : decode cX1_takeBack 25 = .ok (.isub, 1) := by decide +kernel
theorem dX1_takeBack_26 : decode cX1_takeBack 26 = .ok (.istore_n 3, 1) := by decide +kernel
theorem dX1_takeBack_27 : decode cX1_takeBack 27 = .ok (.aload_n 0, 1) := by decide +kernel
theorem dX1_takeBack_28 : decode cX1_takeBack 28 = .ok (.dup, 1) := by decide +kernel
theorem dX1_takeBack_29 : decode cX1_takeBack 29 = .ok (.getfield 15, 3) := by decide +kernel
theorem dX1_takeBack_32 : decode cX1_takeBack 32 = .ok (.aload_n 0, 1) := by decide +kernel
theorem dX1_takeBack_33 : decode cX1_takeBack 33 = .ok (.getfield 58, 3) := by decide +kernel
theorem dX1_takeBack_36 : decode cX1_takeBack 36 = .ok (.getfield 141, 3) := by decide +kernel
theorem dX1_takeBack_39 : decode cX1_takeBack 39 = .ok (.iload_n 3, 1) := by decide +kernel
theorem dX1_takeBack_40 : decode cX1_takeBack 40 = .ok (.iaload, 1) := by decide +kernel
theorem dX1_takeBack_41 : decode cX1_takeBack 41 = .ok (.isub, 1) := by decide +kernel
theorem dX1_takeBack_42 : decode cX1_takeBack 42 = .ok (.putfield 15, 3) := by decide +kernel
theorem dX1_takeBack_45 : decode cX1_takeBack 45 = .ok (.aload_n 0, 1) := by decide +kernel
theorem dX1_takeBack_46 : decode cX1_takeBack 46 = .ok (.dup, 1) := by decide +kernel
theorem dX1_takeBack_47 : decode cX1_takeBack 47 = .ok (.getfield 18, 3) := by decide +kernel
theorem dX1_takeBack_50 : decode cX1_takeBack 50 = .ok (.aload_n 0, 1) := by decide +kernel
theorem dX1_takeBack_51 : decode cX1_takeBack 51 = .ok (.getfield 58, 3) := by decide +kernel
theorem dX1_takeBack_54 : decode cX1_takeBack 54 = .ok (.getfield 144, 3) := by decide +kernel
theorem dX1_takeBack_57 : decode cX1_takeBack 57 = .ok (.iload_n 3, 1) := by decide +kernel
theorem dX1_takeBack_58 : decode cX1_takeBack 58 = .ok (.iaload, 1) := by decide +kernel
theorem dX1_takeBack_59 : decode cX1_takeBack 59 = .ok (.isub, 1) := by decide +kernel
theorem dX1_takeBack_60 : decode cX1_takeBack 60 = .ok (.putfield 18, 3) := by decide +kernel
theorem dX1_takeBack_63 : decode cX1_takeBack 63 = .ok (.aload_n 0, 1) := by decide +kernel
theorem dX1_takeBack_64 : decode cX1_takeBack 64 = .ok (.dup, 1) := by decide +kernel
theorem dX1_takeBack_65 : decode cX1_takeBack 65 = .ok (.getfield 33, 3) := by decide +kernel
theorem dX1_takeBack_68 : decode cX1_takeBack 68 = .ok (.aload_n 0, 1) := by decide +kernel
theorem dX1_takeBack_69 : decode cX1_takeBack 69 = .ok (.getfield 58, 3) := by decide +kernel
theorem dX1_takeBack_72 : decode cX1_takeBack 72 = .ok (.getfield 147, 3) := by decide +kernel
theorem dX1_takeBack_75 : decode cX1_takeBack 75 = .ok (.iload_n 3, 1) := by decide +kernel
theorem dX1_takeBack_76 : decode cX1_takeBack 76 = .ok (.iaload, 1) := by decide +kernel
theorem dX1_takeBack_77 : decode cX1_takeBack 77 = .ok (.isub, 1) := by decide +kernel
theorem dX1_takeBack_78 : decode cX1_takeBack 78 = .ok (.putfield 33, 3) := by decide +kernel
theorem dX1_takeBack_81 : decode cX1_takeBack 81 = .ok (.aload_n 0, 1) := by decide +kernel
theorem dX1_takeBack_82 : decode cX1_takeBack 82 = .ok (.getfield 43, 3) := by decide +kernel
theorem dX1_takeBack_85 : decode cX1_takeBack 85 = .ok (.aload_n 0, 1) := by decide +kernel
theorem dX1_takeBack_86 : decode cX1_takeBack 86 = .ok (.getfield 58, 3) := by decide +kernel
theorem dX1_takeBack_89 : decode cX1_takeBack 89 = .ok (.getfield 150, 3) := by decide +kernel
theorem dX1_takeBack_92 : decode cX1_takeBack 92 = .ok (.iload_n 3, 1) := by decide +kernel
theorem dX1_takeBack_93 : decode cX1_takeBack 93 = .ok (.iaload, 1) := by decide +kernel
theorem dX1_takeBack_94 : decode cX1_takeBack 94 = .ok (.dup2, 1) := by decide +kernel
theorem dX1_takeBack_95 : decode cX1_takeBack 95 = .ok (.iaload, 1) := by decide +kernel
theorem dX1_takeBack_96 : decode cX1_takeBack 96 = .ok (.aload_n 0, 1) := by decide +kernel
theorem dX1_takeBack_97 : decode cX1_takeBack 97 = .ok (.getfield 58, 3) := by decide +kernel
theorem dX1_takeBack_100 : decode cX1_takeBack 100 = .ok (.getfield 153, 3) := by decide +kernel
theorem dX1_takeBack_103 : decode cX1_takeBack 103 = .ok (.iload_n 3, 1) := by decide +kernel
theorem dX1_takeBack_104 : decode cX1_takeBack 104 = .ok (.iaload, 1) := by decide +kernel
theorem dX1_takeBack_105 : decode cX1_takeBack 105 = .ok (.isub, 1) := by decide +kernel
theorem dX1_takeBack_106 : decode cX1_takeBack 106 = .ok (.iastore, 1) := by decide +kernel
theorem dX1_takeBack_107 : decode cX1_takeBack 107 = .ok (.aload_n 0, 1) := by decide +kernel
theorem dX1_takeBack_108 : decode cX1_takeBack 108 = .ok (.getfield 58, 3) := by decide +kernel
theorem dX1_takeBack_111 : decode cX1_takeBack 111 = .ok (.iload_n 3, 1) := by decide +kernel
theorem dX1_takeBack_112 : decode cX1_takeBack 112 = .ok (.putfield 62, 3) := by decide +kernel
theorem dX1_takeBack_115 : decode cX1_takeBack 115 = .ok (.iinc 2 1, 3) := by decide +kernel
theorem dX1_takeBack_118 : decode cX1_takeBack 118 = .ok (.goto (-116), 3) := by decide +kernel
theorem dX1_takeBack_121 : decode cX1_takeBack 121 = .ok (.return_, 1) := by decide +kernel
theorem dX1_passYear_0 : decode cX1_passYear 0 = .ok (.aload_n 0, 1) := by decide +kernel
theorem dX1_passYear_1 : decode cX1_passYear 1 = .ok (.aload_n 0, 1) := by decide +kernel
theorem dX1_passYear_2 : decode cX1_passYear 2 = .ok (.invokevirtual 156, 3) := by decide +kernel
theorem dX1_passYear_5 : decode cX1_passYear 5 = .ok (.invokevirtual 160, 3) := by decide +kernel
theorem dX1_passYear_8 : decode cX1_passYear 8 = .ok (.istore_n 1, 1) := by decide +kernel
theorem dX1_passYear_9 : decode cX1_passYear 9 = .ok (.aload_n 0, 1) := by decide +kernel
theorem dX1_passYear_10 : decode cX1_passYear 10 = .ok (.iload_n 1, 1) := by decide +kernel
theorem dX1_passYear_11 : decode cX1_passYear 11 = .ok (.invokestatic 116, 3) := by decide +kernel
theorem dX1_passYear_14 : decode cX1_passYear 14 = .ok (.aload_n 0, 1) := by decide +kernel
theorem dX1_passYear_15 : decode cX1_passYear 15 = .ok (.getfield 15, 3) := by decide +kernel
theorem dX1_passYear_18 : decode cX1_passYear 18 = .ok (.isub, 1) := by decide +kernel
theorem dX1_passYear_19 : decode cX1_passYear 19 = .ok (.iload_n 1, 1) := by decide +kernel
theorem dX1_passYear_20 : decode cX1_passYear 20 = .ok (.invokestatic 119, 3) := by decide +kernel
theorem dX1_passYear_23 : decode cX1_passYear 23 = .ok (.aload_n 0, 1) := by decide +kernel
theorem dX1_passYear_24 : decode cX1_passYear 24 = .ok (.getfield 18, 3) := by decide +kernel
theorem dX1_passYear_27 : decode cX1_passYear 27 = .ok (.isub, 1) := by decide +kernel
theorem dX1_passYear_28 : decode cX1_passYear 28 = .ok (.iconst 1, 1) := by decide +kernel
theorem dX1_passYear_29 : decode cX1_passYear 29 = .ok (.iconst 0, 1) := by decide +kernel
theorem dX1_passYear_30 : decode cX1_passYear 30 = .ok (.iconst 0, 1) := by decide +kernel
theorem dX1_passYear_31 : decode cX1_passYear 31 = .ok (.invokevirtual 163, 3) := by decide +kernel
theorem dX1_passYear_34 : decode cX1_passYear 34 = .ok (.return_, 1) := by decide +kernel
theorem dX1_walkByLot_0 : decode cX1_walkByLot 0 = .ok (.aload_n 0, 1) := by decide +kernel
theorem dX1_walkByLot_1 : decode cX1_walkByLot 1 = .ok (.getfield 36, 3) := by decide +kernel
theorem dX1_walkByLot_4 : decode cX1_walkByLot 4 = .ok (.ifCond .gt 4, 3) := by decide +kernel
theorem dX1_walkByLot_7 : decode cX1_walkByLot 7 = .ok (.return_, 1) := by decide +kernel
theorem dX1_walkByLot_8 : decode cX1_walkByLot 8 = .ok (.iload_n 1, 1) := by decide +kernel
theorem dX1_walkByLot_9 : decode cX1_walkByLot 9 = .ok (.aload_n 0, 1) := by decide +kernel
theorem dX1_walkByLot_10 : decode cX1_walkByLot 10 = .ok (.getfield 36, 3) := by decide +kernel
theorem dX1_walkByLot_13 : decode cX1_walkByLot 13 = .ok (.invokestatic 167, 3) := by decide +kernel
theorem dX1_walkByLot_16 : decode cX1_walkByLot 16 = .ok (.istore_n 3, 1) := by decide +kernel
theorem dX1_walkByLot_17 : decode cX1_walkByLot 17 = .ok (.aload_n 0, 1) := by decide +kernel
theorem dX1_walkByLot_18 : decode cX1_walkByLot 18 = .ok (.iconst 0, 1) := by decide +kernel
theorem dX1_walkByLot_19 : decode cX1_walkByLot 19 = .ok (.iconst 0, 1) := by decide +kernel
theorem dX1_walkByLot_20 : decode cX1_walkByLot 20 = .ok (.iconst 0, 1) := by decide +kernel
theorem dX1_walkByLot_21 : decode cX1_walkByLot 21 = .ok (.iload_n 3, 1) := by decide +kernel
theorem dX1_walkByLot_22 : decode cX1_walkByLot 22 = .ok (.aload_n 0, 1) := by decide +kernel
theorem dX1_walkByLot_23 : decode cX1_walkByLot 23 = .ok (.aload_n 0, 1) := by decide +kernel
theorem dX1_walkByLot_24 : decode cX1_walkByLot 24 = .ok (.getfield 43, 3) := by decide +kernel
theorem dX1_walkByLot_27 : decode cX1_walkByLot 27 = .ok (.iload_n 3, 1) := by decide +kernel
theorem dX1_walkByLot_28 : decode cX1_walkByLot 28 = .ok (.iaload, 1) := by decide +kernel
theorem dX1_walkByLot_29 : decode cX1_walkByLot 29 = .ok (.iload_n 2, 1) := by decide +kernel
theorem dX1_walkByLot_30 : decode cX1_walkByLot 30 = .ok (.iadd, 1) := by decide +kernel
theorem dX1_walkByLot_31 : decode cX1_walkByLot 31 = .ok (.invokevirtual 170, 3) := by decide +kernel
theorem dX1_walkByLot_34 : decode cX1_walkByLot 34 = .ok (.ifCond .eq 7, 3) := by decide +kernel
theorem dX1_walkByLot_37 : decode cX1_walkByLot 37 = .ok (.iload_n 2, 1) := by decide +kernel
theorem dX1_walkByLot_38 : decode cX1_walkByLot 38 = .ok (.goto 4, 3) := by decide +kernel
theorem dX1_walkByLot_41 : decode cX1_walkByLot 41 = .ok (.iconst 0, 1) := by decide +kernel
theorem dX1_walkByLot_42 : decode cX1_walkByLot 42 = .ok (.invokevirtual 163, 3) := by decide +kernel
theorem dX1_walkByLot_45 : decode cX1_walkByLot 45 = .ok (.return_, 1) := by decide +kernel
theorem dX1_enterLong_0 : decode cX1_enterLong 0 = .ok (.aload_n 0, 1) := by decide +kernel
theorem dX1_enterLong_1 : decode cX1_enterLong 1 = .ok (.getfield 15, 3) := by decide +kernel
theorem dX1_enterLong_4 : decode cX1_enterLong 4 = .ok (.iload_n 1, 1) := by decide +kernel
theorem dX1_enterLong_5 : decode cX1_enterLong 5 = .ok (.if_icmp .gt 13, 3) := by decide +kernel
theorem dX1_enterLong_8 : decode cX1_enterLong 8 = .ok (.iload_n 1, 1) := by decide +kernel
theorem dX1_enterLong_9 : decode cX1_enterLong 9 = .ok (.aload_n 0, 1) := by decide +kernel
theorem dX1_enterLong_10 : decode cX1_enterLong 10 = .ok (.getfield 18, 3) := by decide +kernel
theorem dX1_enterLong_13 : decode cX1_enterLong 13 = .ok (.if_icmp .ge 5, 3) := by decide +kernel
theorem dX1_enterLong_16 : decode cX1_enterLong 16 = .ok (.iconst 1, 1) := by decide +kernel
theorem dX1_enterLong_17 : decode cX1_enterLong 17 = .ok (.ireturn, 1) := by decide +kernel
theorem dX1_enterLong_18 : decode cX1_enterLong 18 = .ok (.iload_n 1, 1) := by decide +kernel
theorem dX1_enterLong_19 : decode cX1_enterLong 19 = .ok (.aload_n 0, 1) := by decide +kernel
theorem dX1_enterLong_20 : decode cX1_enterLong 20 = .ok (.getfield 15, 3) := by decide +kernel
theorem dX1_enterLong_23 : decode cX1_enterLong 23 = .ok (.if_icmp .ge 7, 3) := by decide +kernel
theorem dX1_enterLong_26 : decode cX1_enterLong 26 = .ok (.iconst 2, 1) := by decide +kernel
theorem dX1_enterLong_27 : decode cX1_enterLong 27 = .ok (.goto 4, 3) := by decide +kernel
theorem dX1_enterLong_30 : decode cX1_enterLong 30 = .ok (.iconst 3, 1) := by decide +kernel
theorem dX1_enterLong_31 : decode cX1_enterLong 31 = .ok (.istore_n 2, 1) := by decide +kernel
theorem dX1_enterLong_32 : decode cX1_enterLong 32 = .ok (.iconst 0, 1) := by decide +kernel
theorem dX1_enterLong_33 : decode cX1_enterLong 33 = .ok (.istore_n 3, 1) := by decide +kernel
theorem dX1_enterLong_34 : decode cX1_enterLong 34 = .ok (.iload_n 3, 1) := by decide +kernel
theorem dX1_enterLong_35 : decode cX1_enterLong 35 = .ok (.aload_n 0, 1) := by decide +kernel
theorem dX1_enterLong_36 : decode cX1_enterLong 36 = .ok (.getfield 36, 3) := by decide +kernel
theorem dX1_enterLong_39 : decode cX1_enterLong 39 = .ok (.if_icmp .ge 31, 3) := by decide +kernel
theorem dX1_enterLong_42 : decode cX1_enterLong 42 = .ok (.aload_n 0, 1) := by decide +kernel
theorem dX1_enterLong_43 : decode cX1_enterLong 43 = .ok (.getfield 43, 3) := by decide +kernel
theorem dX1_enterLong_46 : decode cX1_enterLong 46 = .ok (.iload_n 3, 1) := by decide +kernel
theorem dX1_enterLong_47 : decode cX1_enterLong 47 = .ok (.iaload, 1) := by decide +kernel
theorem dX1_enterLong_48 : decode cX1_enterLong 48 = .ok (.iload_n 1, 1) := by decide +kernel
theorem dX1_enterLong_49 : decode cX1_enterLong 49 = .ok (.if_icmp .ne 15, 3) := by decide +kernel
theorem dX1_enterLong_52 : decode cX1_enterLong 52 = .ok (.aload_n 0, 1) := by decide +kernel
theorem dX1_enterLong_53 : decode cX1_enterLong 53 = .ok (.iload_n 3, 1) := by decide +kernel
theorem dX1_enterLong_54 : decode cX1_enterLong 54 = .ok (.invokevirtual 109, 3) := by decide +kernel
theorem dX1_enterLong_57 : decode cX1_enterLong 57 = .ok (.ifCond .ne 7, 3) := by decide +kernel
theorem dX1_enterLong_60 : decode cX1_enterLong 60 = .ok (.iload_n 2, 1) := by decide +kernel
theorem dX1_enterLong_61 : decode cX1_enterLong 61 = .ok (.iconst 1, 1) := by decide +kernel
theorem dX1_enterLong_62 : decode cX1_enterLong 62 = .ok (.iadd, 1) := by decide +kernel
theorem dX1_enterLong_63 : decode cX1_enterLong 63 = .ok (.ireturn, 1) := by decide +kernel
theorem dX1_enterLong_64 : decode cX1_enterLong 64 = .ok (.iinc 3 1, 3) := by decide +kernel
theorem dX1_enterLong_67 : decode cX1_enterLong 67 = .ok (.goto (-33), 3) := by decide +kernel
theorem dX1_enterLong_70 : decode cX1_enterLong 70 = .ok (.iload_n 2, 1) := by decide +kernel
theorem dX1_enterLong_71 : decode cX1_enterLong 71 = .ok (.ireturn, 1) := by decide +kernel
theorem dX1_wayLong_0 : decode cX1_wayLong 0 = .ok (.iconst 0, 1) := by decide +kernel
theorem dX1_wayLong_1 : decode cX1_wayLong 1 = .ok (.istore_n 3, 1) := by decide +kernel
theorem dX1_wayLong_2 : decode cX1_wayLong 2 = .ok (.iload_n 1, 1) := by decide +kernel
theorem dX1_wayLong_3 : decode cX1_wayLong 3 = .ok (.iconst 1, 1) := by decide +kernel
theorem dX1_wayLong_4 : decode cX1_wayLong 4 = .ok (.iadd, 1) := by decide +kernel
theorem dX1_wayLong_5 : decode cX1_wayLong 5 = .ok (.istore 4, 2) := by decide +kernel
theorem dX1_wayLong_7 : decode cX1_wayLong 7 = .ok (.iload 4, 2) := by decide +kernel
theorem dX1_wayLong_9 : decode cX1_wayLong 9 = .ok (.iload_n 2, 1) := by decide +kernel
theorem dX1_wayLong_10 : decode cX1_wayLong 10 = .ok (.if_icmp .gt 18, 3) := by decide +kernel
theorem dX1_wayLong_13 : decode cX1_wayLong 13 = .ok (.iload_n 3, 1) := by decide +kernel
theorem dX1_wayLong_14 : decode cX1_wayLong 14 = .ok (.aload_n 0, 1) := by decide +kernel
theorem dX1_wayLong_15 : decode cX1_wayLong 15 = .ok (.iload 4, 2) := by decide +kernel
theorem dX1_wayLong_17 : decode cX1_wayLong 17 = .ok (.invokevirtual 173, 3) := by decide +kernel
theorem dX1_wayLong_20 : decode cX1_wayLong 20 = .ok (.iadd, 1) := by decide +kernel
theorem dX1_wayLong_21 : decode cX1_wayLong 21 = .ok (.istore_n 3, 1) := by decide +kernel
theorem dX1_wayLong_22 : decode cX1_wayLong 22 = .ok (.iinc 4 1, 3) := by decide +kernel
theorem dX1_wayLong_25 : decode cX1_wayLong 25 = .ok (.goto (-18), 3) := by decide +kernel
theorem dX1_wayLong_28 : decode cX1_wayLong 28 = .ok (.iload_n 1, 1) := by decide +kernel
theorem dX1_wayLong_29 : decode cX1_wayLong 29 = .ok (.iconst 1, 1) := by decide +kernel
theorem dX1_wayLong_30 : decode cX1_wayLong 30 = .ok (.isub, 1) := by decide +kernel
theorem dX1_wayLong_31 : decode cX1_wayLong 31 = .ok (.istore 4, 2) := by decide +kernel
theorem dX1_wayLong_33 : decode cX1_wayLong 33 = .ok (.iload 4, 2) := by decide +kernel
theorem dX1_wayLong_35 : decode cX1_wayLong 35 = .ok (.iload_n 2, 1) := by decide +kernel
theorem dX1_wayLong_36 : decode cX1_wayLong 36 = .ok (.if_icmp .lt 18, 3) := by decide +kernel
theorem dX1_wayLong_39 : decode cX1_wayLong 39 = .ok (.iload_n 3, 1) := by decide +kernel
theorem dX1_wayLong_40 : decode cX1_wayLong 40 = .ok (.aload_n 0, 1) := by decide +kernel
theorem dX1_wayLong_41 : decode cX1_wayLong 41 = .ok (.iload 4, 2) := by decide +kernel
theorem dX1_wayLong_43 : decode cX1_wayLong 43 = .ok (.invokevirtual 173, 3) := by decide +kernel
theorem dX1_wayLong_46 : decode cX1_wayLong 46 = .ok (.iadd, 1) := by decide +kernel
theorem dX1_wayLong_47 : decode cX1_wayLong 47 = .ok (.istore_n 3, 1) := by decide +kernel
theorem dX1_wayLong_48 : decode cX1_wayLong 48 = .ok (.iinc 4 (-1), 3) := by decide +kernel
theorem dX1_wayLong_51 : decode cX1_wayLong 51 = .ok (.goto (-18), 3) := by decide +kernel
theorem dX1_wayLong_54 : decode cX1_wayLong 54 = .ok (.iload_n 3, 1) := by decide +kernel
theorem dX1_wayLong_55 : decode cX1_wayLong 55 = .ok (.ireturn, 1) := by decide +kernel
theorem dX1_farLong_0 : decode cX1_farLong 0 = .ok (.iconst 0, 1) := by decide +kernel
theorem dX1_farLong_1 : decode cX1_farLong 1 = .ok (.istore_n 2, 1) := by decide +kernel
theorem dX1_farLong_2 : decode cX1_farLong 2 = .ok (.iconst 0, 1) := by decide +kernel
theorem dX1_farLong_3 : decode cX1_farLong 3 = .ok (.istore_n 3, 1) := by decide +kernel
theorem dX1_farLong_4 : decode cX1_farLong 4 = .ok (.iload_n 3, 1) := by decide +kernel
theorem dX1_farLong_5 : decode cX1_farLong 5 = .ok (.aload_n 0, 1) := by decide +kernel
theorem dX1_farLong_6 : decode cX1_farLong 6 = .ok (.getfield 9, 3) := by decide +kernel
theorem dX1_farLong_9 : decode cX1_farLong 9 = .ok (.if_icmp .ge 18, 3) := by decide +kernel
theorem dX1_farLong_12 : decode cX1_farLong 12 = .ok (.iload_n 2, 1) := by decide +kernel
theorem dX1_farLong_13 : decode cX1_farLong 13 = .ok (.aload_n 0, 1) := by decide +kernel
theorem dX1_farLong_14 : decode cX1_farLong 14 = .ok (.iload_n 1, 1) := by decide +kernel
theorem dX1_farLong_15 : decode cX1_farLong 15 = .ok (.iload_n 3, 1) := by decide +kernel
theorem dX1_farLong_16 : decode cX1_farLong 16 = .ok (.invokevirtual 176, 3) := by decide +kernel
theorem dX1_farLong_19 : decode cX1_farLong 19 = .ok (.iadd, 1) := by decide +kernel
theorem dX1_farLong_20 : decode cX1_farLong 20 = .ok (.istore_n 2, 1) := by decide +kernel
theorem dX1_farLong_21 : decode cX1_farLong 21 = .ok (.iinc 3 1, 3) := by decide +kernel
theorem dX1_farLong_24 : decode cX1_farLong 24 = .ok (.goto (-20), 3) := by decide +kernel
theorem dX1_farLong_27 : decode cX1_farLong 27 = .ok (.iload_n 2, 1) := by decide +kernel
theorem dX1_farLong_28 : decode cX1_farLong 28 = .ok (.ireturn, 1) := by decide +kernel
theorem dX2_init_0 : decode cX2_init 0 = .ok (.aload_n 0, 1) := by decide +kernel
theorem dX2_init_1 : decode cX2_init 1 = .ok (.invokespecial 3, 3) := by decide +kernel
theorem dX2_init_4 : decode cX2_init 4 = .ok (.aload_n 0, 1) := by decide +kernel
theorem dX2_init_5 : decode cX2_init 5 = .ok (.iconst 0, 1) := by decide +kernel
theorem dX2_init_6 : decode cX2_init 6 = .ok (.putfield 9, 3) := by decide +kernel
theorem dX2_init_9 : decode cX2_init 9 = .ok (.return_, 1) := by decide +kernel
theorem dX2_read_0 : decode cX2_read 0 = .ok (.aload_n 0, 1) := by decide +kernel
theorem dX2_read_1 : decode cX2_read 1 = .ok (.iconst 0, 1) := by decide +kernel
theorem dX2_read_2 : decode cX2_read 2 = .ok (.putfield 9, 3) := by decide +kernel
theorem dX2_read_5 : decode cX2_read 5 = .ok (.aload_n 0, 1) := by decide +kernel
theorem dX2_read_6 : decode cX2_read 6 = .ok (.aload_n 1, 1) := by decide +kernel
theorem dX2_read_7 : decode cX2_read 7 = .ok (.aload_n 2, 1) := by decide +kernel
theorem dX2_read_8 : decode cX2_read 8 = .ok (.invokevirtual 15, 3) := by decide +kernel
theorem dX2_read_11 : decode cX2_read 11 = .ok (.ifCond .eq 16, 3) := by decide +kernel
theorem dX2_read_14 : decode cX2_read 14 = .ok (.aload_n 0, 1) := by decide +kernel
theorem dX2_read_15 : decode cX2_read 15 = .ok (.aload_n 1, 1) := by decide +kernel
theorem dX2_read_16 : decode cX2_read 16 = .ok (.aload_n 2, 1) := by decide +kernel
theorem dX2_read_17 : decode cX2_read 17 = .ok (.invokevirtual 19, 3) := by decide +kernel
theorem dX2_read_20 : decode cX2_read 20 = .ok (.ifCond .eq 7, 3) := by decide +kernel
theorem dX2_read_23 : decode cX2_read 23 = .ok (.iconst 1, 1) := by decide +kernel
theorem dX2_read_24 : decode cX2_read 24 = .ok (.goto 4, 3) := by decide +kernel
theorem dX2_read_27 : decode cX2_read 27 = .ok (.iconst 0, 1) := by decide +kernel
theorem dX2_read_28 : decode cX2_read 28 = .ok (.ireturn, 1) := by decide +kernel
theorem dX2_readSides_0 : decode cX2_readSides 0 = .ok (.aload_n 0, 1) := by decide +kernel
theorem dX2_readSides_1 : decode cX2_readSides 1 = .ok (.aload_n 1, 1) := by decide +kernel
theorem dX2_readSides_2 : decode cX2_readSides 2 = .ok (.invokevirtual 22, 3) := by decide +kernel
theorem dX2_readSides_5 : decode cX2_readSides 5 = .ok (.aload_n 0, 1) := by decide +kernel
theorem dX2_readSides_6 : decode cX2_readSides 6 = .ok (.aload_n 1, 1) := by decide +kernel
theorem dX2_readSides_7 : decode cX2_readSides 7 = .ok (.invokevirtual 26, 3) := by decide +kernel
theorem dX2_readSides_10 : decode cX2_readSides 10 = .ok (.bipush 110, 2) := by decide +kernel
theorem dX2_readSides_12 : decode cX2_readSides 12 = .ok (.if_icmp .eq 5, 3) := by decide +kernel
theorem dX2_readSides_15 : decode cX2_readSides 15 = .ok (.iconst 0, 1) := by decide +kernel
theorem dX2_readSides_16 : decode cX2_readSides 16 = .ok (.ireturn, 1) := by decide +kernel
theorem dX2_readSides_17 : decode cX2_readSides 17 = .ok (.aload_n 0, 1) := by decide +kernel
theorem dX2_readSides_18 : decode cX2_readSides 18 = .ok (.dup, 1) := by decide +kernel
theorem dX2_readSides_19 : decode cX2_readSides 19 = .ok (.getfield 9, 3) := by decide +kernel
theorem dX2_readSides_22 : decode cX2_readSides 22 = .ok (.iconst 1, 1) := by decide +kernel
theorem dX2_readSides_23 : decode cX2_readSides 23 = .ok (.iadd, 1) := by decide +kernel
theorem dX2_readSides_24 : decode cX2_readSides 24 = .ok (.putfield 9, 3) := by decide +kernel
theorem dX2_readSides_27 : decode cX2_readSides 27 = .ok (.aload_n 2, 1) := by decide +kernel
theorem dX2_readSides_28 : decode cX2_readSides 28 = .ok (.aload_n 0, 1) := by decide +kernel
theorem dX2_readSides_29 : decode cX2_readSides 29 = .ok (.aload_n 1, 1) := by decide +kernel
theorem dX2_readSides_30 : decode cX2_readSides 30 = .ok (.iconst 3, 1) := by decide +kernel
theorem dX2_readSides_31 : decode cX2_readSides 31 = .ok (.bipush 9, 2) := by decide +kernel
theorem dX2_readSides_33 : decode cX2_readSides 33 = .ok (.invokevirtual 30, 3) := by decide +kernel
theorem dX2_readSides_36 : decode cX2_readSides 36 = .ok (.putfield 34, 3) := by decide +kernel
theorem dX2_readSides_39 : decode cX2_readSides 39 = .ok (.aload_n 2, 1) := by decide +kernel
theorem dX2_readSides_40 : decode cX2_readSides 40 = .ok (.aload_n 2, 1) := by decide +kernel
theorem dX2_readSides_41 : decode cX2_readSides 41 = .ok (.getfield 34, 3) := by decide +kernel
theorem dX2_readSides_44 : decode cX2_readSides 44 = .ok (.ifCond .ge 7, 3) := by decide +kernel
theorem dX2_readSides_47 : decode cX2_readSides 47 = .ok (.iconst (-1), 1) := by decide +kernel
theorem dX2_readSides_48 : decode cX2_readSides 48 = .ok (.goto 13, 3) := by decide +kernel
theorem dX2_readSides_51 : decode cX2_readSides 51 = .ok (.aload_n 0, 1) := by decide +kernel
theorem dX2_readSides_52 : decode cX2_readSides 52 = .ok (.aload_n 1, 1) := by decide +kernel
theorem dX2_readSides_53 : decode cX2_readSides 53 = .ok (.iconst 0, 1) := by decide +kernel
theorem dX2_readSides_54 : decode cX2_readSides 54 = .ok (.aload_n 2, 1) := by decide +kernel
theorem dX2_readSides_55 : decode cX2_readSides 55 = .ok (.getfield 34, 3) := by decide +kernel
theorem dX2_readSides_58 : decode cX2_readSides 58 = .ok (.invokevirtual 30, 3) := by decide +kernel
theorem dX2_readSides_61 : decode cX2_readSides 61 = .ok (.putfield 39, 3) := by decide +kernel
theorem dX2_readSides_64 : decode cX2_readSides 64 = .ok (.aload_n 2, 1) := by decide +kernel
theorem dX2_readSides_65 : decode cX2_readSides 65 = .ok (.aload_n 2, 1) := by decide +kernel
theorem dX2_readSides_66 : decode cX2_readSides 66 = .ok (.getfield 39, 3) := by decide +kernel
theorem dX2_readSides_69 : decode cX2_readSides 69 = .ok (.ifCond .ge 7, 3) := by decide +kernel
theorem dX2_readSides_72 : decode cX2_readSides 72 = .ok (.iconst (-1), 1) := by decide +kernel
theorem dX2_readSides_73 : decode cX2_readSides 73 = .ok (.goto 16, 3) := by decide +kernel
theorem dX2_readSides_76 : decode cX2_readSides 76 = .ok (.aload_n 0, 1) := by decide +kernel
theorem dX2_readSides_77 : decode cX2_readSides 77 = .ok (.aload_n 1, 1) := by decide +kernel
theorem dX2_readSides_78 : decode cX2_readSides 78 = .ok (.aload_n 2, 1) := by decide +kernel
theorem dX2_readSides_79 : decode cX2_readSides 79 = .ok (.getfield 39, 3) := by decide +kernel
theorem dX2_readSides_82 : decode cX2_readSides 82 = .ok (.aload_n 2, 1) := by decide +kernel
theorem dX2_readSides_83 : decode cX2_readSides 83 = .ok (.getfield 34, 3) := by decide +kernel
theorem dX2_readSides_86 : decode cX2_readSides 86 = .ok (.invokevirtual 30, 3) := by decide +kernel
theorem dX2_readSides_89 : decode cX2_readSides 89 = .ok (.putfield 42, 3) := by decide +kernel
theorem dX2_readSides_92 : decode cX2_readSides 92 = .ok (.aload_n 2, 1) := by decide +kernel
theorem dX2_readSides_93 : decode cX2_readSides 93 = .ok (.aload_n 2, 1) := by decide +kernel
theorem dX2_readSides_94 : decode cX2_readSides 94 = .ok (.getfield 42, 3) := by decide +kernel
theorem dX2_readSides_97 : decode cX2_readSides 97 = .ok (.ifCond .ge 7, 3) := by decide +kernel
theorem dX2_readSides_100 : decode cX2_readSides 100 = .ok (.iconst (-1), 1) := by decide +kernel
theorem dX2_readSides_101 : decode cX2_readSides 101 = .ok (.goto 11, 3) := by decide +kernel
theorem dX2_readSides_104 : decode cX2_readSides 104 = .ok (.aload_n 0, 1) := by decide +kernel
theorem dX2_readSides_105 : decode cX2_readSides 105 = .ok (.aload_n 1, 1) := by decide +kernel
theorem dX2_readSides_106 : decode cX2_readSides 106 = .ok (.iconst 0, 1) := by decide +kernel
theorem dX2_readSides_107 : decode cX2_readSides 107 = .ok (.bipush 7, 2) := by decide +kernel
theorem dX2_readSides_109 : decode cX2_readSides 109 = .ok (.invokevirtual 30, 3) := by decide +kernel
theorem dX2_readSides_112 : decode cX2_readSides 112 = .ok (.putfield 45, 3) := by decide +kernel
theorem dX2_readSides_115 : decode cX2_readSides 115 = .ok (.aload_n 2, 1) := by decide +kernel
theorem dX2_readSides_116 : decode cX2_readSides 116 = .ok (.aload_n 2, 1) := by decide +kernel
theorem dX2_readSides_117 : decode cX2_readSides 117 = .ok (.getfield 45, 3) := by decide +kernel
theorem dX2_readSides_120 : decode cX2_readSides 120 = .ok (.ifCond .ge 7, 3) := by decide +kernel
theorem dX2_readSides_123 : decode cX2_readSides 123 = .ok (.iconst (-1), 1) := by decide +kernel
theorem dX2_readSides_124 : decode cX2_readSides 124 = .ok (.goto 11, 3) := by decide +kernel
theorem dX2_readSides_127 : decode cX2_readSides 127 = .ok (.aload_n 0, 1) := by decide +kernel
theorem dX2_readSides_128 : decode cX2_readSides 128 = .ok (.aload_n 1, 1) := by decide +kernel
theorem dX2_readSides_129 : decode cX2_readSides 129 = .ok (.iconst 0, 1) := by decide +kernel
theorem dX2_readSides_130 : decode cX2_readSides 130 = .ok (.bipush 7, 2) := by decide +kernel
theorem dX2_readSides_132 : decode cX2_readSides 132 = .ok (.invokevirtual 30, 3) := by decide +kernel
theorem dX2_readSides_135 : decode cX2_readSides 135 = .ok (.putfield 48, 3) := by decide +kernel
theorem dX2_readSides_138 : decode cX2_readSides 138 = .ok (.aload_n 2, 1) := by decide +kernel
theorem dX2_readSides_139 : decode cX2_readSides 139 = .ok (.aload_n 2, 1) := by decide +kernel
theorem dX2_readSides_140 : decode cX2_readSides 140 = .ok (.getfield 39, 3) := by decide +kernel
theorem dX2_readSides_143 : decode cX2_readSides 143 = .ok (.putfield 51, 3) := by decide +kernel
theorem dX2_readSides_146 : decode cX2_readSides 146 = .ok (.aload_n 2, 1) := by decide +kernel
theorem dX2_readSides_147 : decode cX2_readSides 147 = .ok (.aload_n 2, 1) := by decide +kernel
theorem dX2_readSides_148 : decode cX2_readSides 148 = .ok (.getfield 42, 3) := by decide +kernel
theorem dX2_readSides_151 : decode cX2_readSides 151 = .ok (.putfield 54, 3) := by decide +kernel
theorem dX2_readSides_154 : decode cX2_readSides 154 = .ok (.aload_n 2, 1) := by decide +kernel
theorem dX2_readSides_155 : decode cX2_readSides 155 = .ok (.iconst 0, 1) := by decide +kernel
theorem dX2_readSides_156 : decode cX2_readSides 156 = .ok (.putfield 57, 3) := by decide +kernel
theorem dX2_readSides_159 : decode cX2_readSides 159 = .ok (.aload_n 2, 1) := by decide +kernel
theorem dX2_readSides_160 : decode cX2_readSides 160 = .ok (.iconst 0, 1) := by decide +kernel
theorem dX2_readSides_161 : decode cX2_readSides 161 = .ok (.putfield 60, 3) := by decide +kernel
theorem dX2_readSides_164 : decode cX2_readSides 164 = .ok (.aload_n 2, 1) := by decide +kernel
theorem dX2_readSides_165 : decode cX2_readSides 165 = .ok (.getfield 63, 3) := by decide +kernel
theorem dX2_readSides_168 : decode cX2_readSides 168 = .ok (.iconst 0, 1) := by decide +kernel
theorem dX2_readSides_169 : decode cX2_readSides 169 = .ok (.putfield 67, 3) := by decide +kernel
theorem dX2_readSides_172 : decode cX2_readSides 172 = .ok (.aload_n 2, 1) := by decide +kernel
theorem dX2_readSides_173 : decode cX2_readSides 173 = .ok (.getfield 48, 3) := by decide +kernel
theorem dX2_readSides_176 : decode cX2_readSides 176 = .ok (.ifCond .lt 7, 3) := by decide +kernel
theorem dX2_readSides_179 : decode cX2_readSides 179 = .ok (.iconst 1, 1) := by decide +kernel
theorem dX2_readSides_180 : decode cX2_readSides 180 = .ok (.goto 4, 3) := by decide +kernel
theorem dX2_readSides_183 : decode cX2_readSides 183 = .ok (.iconst 0, 1) := by decide +kernel
theorem dX2_readSides_184 : decode cX2_readSides 184 = .ok (.ireturn, 1) := by decide +kernel
theorem dX2_readPeople_0 : decode cX2_readPeople 0 = .ok (.aload_n 0, 1) := by decide +kernel
theorem dX2_readPeople_1 : decode cX2_readPeople 1 = .ok (.aload_n 1, 1) := by decide +kernel
theorem dX2_readPeople_2 : decode cX2_readPeople 2 = .ok (.invokevirtual 22, 3) := by decide +kernel
theorem dX2_readPeople_5 : decode cX2_readPeople 5 = .ok (.aload_n 2, 1) := by decide +kernel
theorem dX2_readPeople_6 : decode cX2_readPeople 6 = .ok (.getfield 60, 3) := by decide +kernel
theorem dX2_readPeople_9 : decode cX2_readPeople 9 = .ok (.bipush 6, 2) := by decide +kernel
theorem dX2_readPeople_11 : decode cX2_readPeople 11 = .ok (.if_icmp .ge 43, 3) := by decide +kernel
theorem dX2_readPeople_14 : decode cX2_readPeople 14 = .ok (.aload_n 0, 1) := by decide +kernel
theorem dX2_readPeople_15 : decode cX2_readPeople 15 = .ok (.getfield 9, 3) := by decide +kernel
theorem dX2_readPeople_18 : decode cX2_readPeople 18 = .ok (.aload_n 1, 1) := by decide +kernel
theorem dX2_readPeople_19 : decode cX2_readPeople 19 = .ok (.getfield 72, 3) := by decide +kernel
theorem dX2_readPeople_22 : decode cX2_readPeople 22 = .ok (.if_icmp .ge 32, 3) := by decide +kernel
theorem dX2_readPeople_25 : decode cX2_readPeople 25 = .ok (.aload_n 0, 1) := by decide +kernel
theorem dX2_readPeople_26 : decode cX2_readPeople 26 = .ok (.aload_n 1, 1) := by decide +kernel
theorem dX2_readPeople_27 : decode cX2_readPeople 27 = .ok (.aload_n 2, 1) := by decide +kernel
theorem dX2_readPeople_28 : decode cX2_readPeople 28 = .ok (.invokevirtual 77, 3) := by decide +kernel
theorem dX2_readPeople_31 : decode cX2_readPeople 31 = .ok (.ifCond .ne 5, 3) := by decide +kernel
theorem dX2_readPeople_34 : decode cX2_readPeople 34 = .ok (.iconst 0, 1) := by decide +kernel
theorem dX2_readPeople_35 : decode cX2_readPeople 35 = .ok (.ireturn, 1) := by decide +kernel
theorem dX2_readPeople_36 : decode cX2_readPeople 36 = .ok (.aload_n 2, 1) := by decide +kernel
theorem dX2_readPeople_37 : decode cX2_readPeople 37 = .ok (.dup, 1) := by decide +kernel
theorem dX2_readPeople_38 : decode cX2_readPeople 38 = .ok (.getfield 60, 3) := by decide +kernel
theorem dX2_readPeople_41 : decode cX2_readPeople 41 = .ok (.iconst 1, 1) := by decide +kernel
theorem dX2_readPeople_42 : decode cX2_readPeople 42 = .ok (.iadd, 1) := by decide +kernel
theorem dX2_readPeople_43 : decode cX2_readPeople 43 = .ok (.putfield 60, 3) := by decide +kernel
theorem dX2_readPeople_46 : decode cX2_readPeople 46 = .ok (.aload_n 0, 1) := by decide +kernel
theorem dX2_readPeople_47 : decode cX2_readPeople 47 = .ok (.aload_n 1, 1) := by decide +kernel
theorem dX2_readPeople_48 : decode cX2_readPeople 48 = .ok (.invokevirtual 22, 3) := by decide +kernel
theorem dX2_readPeople_51 : decode cX2_readPeople 51 = .ok (.goto (-46), 3) := by decide +kernel
theorem dX2_readPeople_54 : decode cX2_readPeople 54 = .ok (.aload_n 2, 1) := by decide +kernel
theorem dX2_readPeople_55 : decode cX2_readPeople 55 = .ok (.getfield 60, 3) := by decide +kernel
theorem dX2_readPeople_58 : decode cX2_readPeople 58 = .ok (.ifCond .le 18, 3) := by decide +kernel
theorem dX2_readPeople_61 : decode cX2_readPeople 61 = .ok (.aload_n 0, 1) := by decide +kernel
theorem dX2_readPeople_62 : decode cX2_readPeople 62 = .ok (.getfield 9, 3) := by decide +kernel
theorem dX2_readPeople_65 : decode cX2_readPeople 65 = .ok (.aload_n 1, 1) := by decide +kernel
theorem dX2_readPeople_66 : decode cX2_readPeople 66 = .ok (.getfield 72, 3) := by decide +kernel
theorem dX2_readPeople_69 : decode cX2_readPeople 69 = .ok (.if_icmp .lt 7, 3) := by decide +kernel
theorem dX2_readPeople_72 : decode cX2_readPeople 72 = .ok (.iconst 1, 1) := by decide +kernel
theorem dX2_readPeople_73 : decode cX2_readPeople 73 = .ok (.goto 4, 3) := by decide +kernel
theorem dX2_readPeople_76 : decode cX2_readPeople 76 = .ok (.iconst 0, 1) := by decide +kernel
theorem dX2_readPeople_77 : decode cX2_readPeople 77 = .ok (.ireturn, 1) := by decide +kernel
theorem dX2_readOne_0 : decode cX2_readOne 0 = .ok (.aload_n 2, 1) := by decide +kernel
theorem dX2_readOne_1 : decode cX2_readOne 1 = .ok (.getfield 60, 3) := by decide +kernel
theorem dX2_readOne_4 : decode cX2_readOne 4 = .ok (.istore_n 3, 1) := by decide +kernel
theorem dX2_readOne_5 : decode cX2_readOne 5 = .ok (.aload_n 0, 1) := by decide +kernel
theorem dX2_readOne_6 : decode cX2_readOne 6 = .ok (.aload_n 1, 1) := by decide +kernel
theorem dX2_readOne_7 : decode cX2_readOne 7 = .ok (.invokevirtual 26, 3) := by decide +kernel
theorem dX2_readOne_10 : decode cX2_readOne 10 = .ok (.invokestatic 80, 3) := by decide +kernel
theorem dX2_readOne_13 : decode cX2_readOne 13 = .ok (.istore 4, 2) := by decide +kernel
theorem dX2_readOne_15 : decode cX2_readOne 15 = .ok (.iload 4, 2) := by decide +kernel
theorem dX2_readOne_17 : decode cX2_readOne 17 = .ok (.ifCond .ge 5, 3) := by decide +kernel
theorem dX2_readOne_20 : decode cX2_readOne 20 = .ok (.iconst 0, 1) := by decide +kernel
theorem dX2_readOne_21 : decode cX2_readOne 21 = .ok (.ireturn, 1) := by decide +kernel
theorem dX2_readOne_22 : decode cX2_readOne 22 = .ok (.aload_n 0, 1) := by decide +kernel
theorem dX2_readOne_23 : decode cX2_readOne 23 = .ok (.dup, 1) := by decide +kernel
theorem dX2_readOne_24 : decode cX2_readOne 24 = .ok (.getfield 9, 3) := by decide +kernel
theorem dX2_readOne_27 : decode cX2_readOne 27 = .ok (.iconst 1, 1) := by decide +kernel
theorem dX2_readOne_28 : decode cX2_readOne 28 = .ok (.iadd, 1) := by decide +kernel
theorem dX2_readOne_29 : decode cX2_readOne 29 = .ok (.putfield 9, 3) := by decide +kernel
theorem dX2_readOne_32 : decode cX2_readOne 32 = .ok (.aload_n 0, 1) := by decide +kernel
theorem dX2_readOne_33 : decode cX2_readOne 33 = .ok (.aload_n 1, 1) := by decide +kernel
theorem dX2_readOne_34 : decode cX2_readOne 34 = .ok (.iconst 0, 1) := by decide +kernel
theorem dX2_readOne_35 : decode cX2_readOne 35 = .ok (.aload_n 2, 1) := by decide +kernel
theorem dX2_readOne_36 : decode cX2_readOne 36 = .ok (.getfield 34, 3) := by decide +kernel
theorem dX2_readOne_39 : decode cX2_readOne 39 = .ok (.iconst 1, 1) := by decide +kernel
theorem dX2_readOne_40 : decode cX2_readOne 40 = .ok (.isub, 1) := by decide +kernel
theorem dX2_readOne_41 : decode cX2_readOne 41 = .ok (.invokevirtual 30, 3) := by decide +kernel
theorem dX2_readOne_44 : decode cX2_readOne 44 = .ok (.istore 5, 2) := by decide +kernel
theorem dX2_readOne_46 : decode cX2_readOne 46 = .ok (.iload 5, 2) := by decide +kernel
theorem dX2_readOne_48 : decode cX2_readOne 48 = .ok (.ifCond .ge 7, 3) := by decide +kernel
theorem dX2_readOne_51 : decode cX2_readOne 51 = .ok (.iconst (-1), 1) := by decide +kernel
theorem dX2_readOne_52 : decode cX2_readOne 52 = .ok (.goto 11, 3) := by decide +kernel
theorem dX2_readOne_55 : decode cX2_readOne 55 = .ok (.aload_n 0, 1) := by decide +kernel
theorem dX2_readOne_56 : decode cX2_readOne 56 = .ok (.aload_n 1, 1) := by decide +kernel
theorem dX2_readOne_57 : decode cX2_readOne 57 = .ok (.iconst 0, 1) := by decide +kernel
theorem dX2_readOne_58 : decode cX2_readOne 58 = .ok (.bipush 9, 2) := by decide +kernel
theorem dX2_readOne_60 : decode cX2_readOne 60 = .ok (.invokevirtual 30, 3) := by decide +kernel
theorem dX2_readOne_63 : decode cX2_readOne 63 = .ok (.istore 6, 2) := by decide +kernel
theorem dX2_readOne_65 : decode cX2_readOne 65 = .ok (.iload 6, 2) := by decide +kernel
theorem dX2_readOne_67 : decode cX2_readOne 67 = .ok (.ifCond .ge 7, 3) := by decide +kernel
theorem dX2_readOne_70 : decode cX2_readOne 70 = .ok (.iconst (-1), 1) := by decide +kernel
theorem dX2_readOne_71 : decode cX2_readOne 71 = .ok (.goto 11, 3) := by decide +kernel
theorem dX2_readOne_74 : decode cX2_readOne 74 = .ok (.aload_n 0, 1) := by decide +kernel
theorem dX2_readOne_75 : decode cX2_readOne 75 = .ok (.aload_n 1, 1) := by decide +kernel
theorem dX2_readOne_76 : decode cX2_readOne 76 = .ok (.iconst 0, 1) := by decide +kernel
theorem dX2_readOne_77 : decode cX2_readOne 77 = .ok (.bipush 7, 2) := by decide +kernel
theorem dX2_readOne_79 : decode cX2_readOne 79 = .ok (.invokevirtual 30, 3) := by decide +kernel
theorem dX2_readOne_82 : decode cX2_readOne 82 = .ok (.istore 7, 2) := by decide +kernel
theorem dX2_readOne_84 : decode cX2_readOne 84 = .ok (.iload 7, 2) := by decide +kernel
theorem dX2_readOne_86 : decode cX2_readOne 86 = .ok (.ifCond .ge 5, 3) := by decide +kernel
theorem dX2_readOne_89 : decode cX2_readOne 89 = .ok (.iconst 0, 1) := by decide +kernel
theorem dX2_readOne_90 : decode cX2_readOne 90 = .ok (.ireturn, 1) := by decide +kernel
theorem dX2_readOne_91 : decode cX2_readOne 91 = .ok (.aload_n 2, 1) := by decide +kernel
theorem dX2_readOne_92 : decode cX2_readOne 92 = .ok (.getfield 84, 3) := by decide +kernel
theorem dX2_readOne_95 : decode cX2_readOne 95 = .ok (.iload_n 3, 1) := by decide +kernel
theorem dX2_readOne_96 : decode cX2_readOne 96 = .ok (.iload 4, 2) := by decide +kernel
theorem dX2_readOne_98 : decode cX2_readOne 98 = .ok (.iastore, 1) := by decide +kernel
theorem dX2_readOne_99 : decode cX2_readOne 99 = .ok (.aload_n 2, 1) := by decide +kernel
theorem dX2_readOne_100 : decode cX2_readOne 100 = .ok (.getfield 88, 3) := by decide +kernel
theorem dX2_readOne_103 : decode cX2_readOne 103 = .ok (.iload_n 3, 1) := by decide +kernel
theorem dX2_readOne_104 : decode cX2_readOne 104 = .ok (.iload 5, 2) := by decide +kernel
theorem dX2_readOne_106 : decode cX2_readOne 106 = .ok (.iastore, 1) := by decide +kernel
theorem dX2_readOne_107 : decode cX2_readOne 107 = .ok (.aload_n 2, 1) := by decide +kernel
theorem dX2_readOne_108 : decode cX2_readOne 108 = .ok (.getfield 91, 3) := by decide +kernel
theorem dX2_readOne_111 : decode cX2_readOne 111 = .ok (.iload_n 3, 1) := by decide +kernel
theorem dX2_readOne_112 : decode cX2_readOne 112 = .ok (.iload 5, 2) := by decide +kernel
theorem dX2_readOne_114 : decode cX2_readOne 114 = .ok (.iastore, 1) := by decide +kernel
theorem dX2_readOne_115 : decode cX2_readOne 115 = .ok (.aload_n 2, 1) := by decide +kernel
theorem dX2_readOne_116 : decode cX2_readOne 116 = .ok (.getfield 94, 3) := by decide +kernel
theorem dX2_readOne_119 : decode cX2_readOne 119 = .ok (.iload_n 3, 1) := by decide +kernel
theorem dX2_readOne_120 : decode cX2_readOne 120 = .ok (.iload 6, 2) := by decide +kernel
theorem dX2_readOne_122 : decode cX2_readOne 122 = .ok (.iastore, 1) := by decide +kernel
theorem dX2_readOne_123 : decode cX2_readOne 123 = .ok (.aload_n 2, 1) := by decide +kernel
theorem dX2_readOne_124 : decode cX2_readOne 124 = .ok (.getfield 97, 3) := by decide +kernel
theorem dX2_readOne_127 : decode cX2_readOne 127 = .ok (.iload_n 3, 1) := by decide +kernel
theorem dX2_readOne_128 : decode cX2_readOne 128 = .ok (.iload 7, 2) := by decide +kernel
theorem dX2_readOne_130 : decode cX2_readOne 130 = .ok (.iastore, 1) := by decide +kernel
theorem dX2_readOne_131 : decode cX2_readOne 131 = .ok (.iconst 1, 1) := by decide +kernel
theorem dX2_readOne_132 : decode cX2_readOne 132 = .ok (.ireturn, 1) := by decide +kernel
theorem dX2_skipBlanks_0 : decode cX2_skipBlanks 0 = .ok (.aload_n 0, 1) := by decide +kernel
theorem dX2_skipBlanks_1 : decode cX2_skipBlanks 1 = .ok (.getfield 9, 3) := by decide +kernel
theorem dX2_skipBlanks_4 : decode cX2_skipBlanks 4 = .ok (.aload_n 1, 1) := by decide +kernel
theorem dX2_skipBlanks_5 : decode cX2_skipBlanks 5 = .ok (.getfield 72, 3) := by decide +kernel
theorem dX2_skipBlanks_8 : decode cX2_skipBlanks 8 = .ok (.if_icmp .ge 26, 3) := by decide +kernel
theorem dX2_skipBlanks_11 : decode cX2_skipBlanks 11 = .ok (.aload_n 0, 1) := by decide +kernel
theorem dX2_skipBlanks_12 : decode cX2_skipBlanks 12 = .ok (.aload_n 1, 1) := by decide +kernel
theorem dX2_skipBlanks_13 : decode cX2_skipBlanks 13 = .ok (.invokevirtual 26, 3) := by decide +kernel
theorem dX2_skipBlanks_16 : decode cX2_skipBlanks 16 = .ok (.bipush 32, 2) := by decide +kernel
theorem dX2_skipBlanks_18 : decode cX2_skipBlanks 18 = .ok (.if_icmp .ne 16, 3) := by decide +kernel
theorem dX2_skipBlanks_21 : decode cX2_skipBlanks 21 = .ok (.aload_n 0, 1) := by decide +kernel
theorem dX2_skipBlanks_22 : decode cX2_skipBlanks 22 = .ok (.dup, 1) := by decide +kernel
theorem dX2_skipBlanks_23 : decode cX2_skipBlanks 23 = .ok (.getfield 9, 3) := by decide +kernel
theorem dX2_skipBlanks_26 : decode cX2_skipBlanks 26 = .ok (.iconst 1, 1) := by decide +kernel
theorem dX2_skipBlanks_27 : decode cX2_skipBlanks 27 = .ok (.iadd, 1) := by decide +kernel
theorem dX2_skipBlanks_28 : decode cX2_skipBlanks 28 = .ok (.putfield 9, 3) := by decide +kernel
theorem dX2_skipBlanks_31 : decode cX2_skipBlanks 31 = .ok (.goto (-31), 3) := by decide +kernel
theorem dX2_skipBlanks_34 : decode cX2_skipBlanks 34 = .ok (.return_, 1) := by decide +kernel
theorem dX2_here_0 : decode cX2_here 0 = .ok (.aload_n 1, 1) := by decide +kernel
theorem dX2_here_1 : decode cX2_here 1 = .ok (.aload_n 0, 1) := by decide +kernel
theorem dX2_here_2 : decode cX2_here 2 = .ok (.getfield 9, 3) := by decide +kernel
theorem dX2_here_5 : decode cX2_here 5 = .ok (.invokevirtual 100, 3) := by decide +kernel
theorem dX2_here_8 : decode cX2_here 8 = .ok (.ifCond .eq 15, 3) := by decide +kernel
theorem dX2_here_11 : decode cX2_here 11 = .ok (.aload_n 1, 1) := by decide +kernel
theorem dX2_here_12 : decode cX2_here 12 = .ok (.getfield 104, 3) := by decide +kernel
theorem dX2_here_15 : decode cX2_here 15 = .ok (.aload_n 0, 1) := by decide +kernel
theorem dX2_here_16 : decode cX2_here 16 = .ok (.getfield 9, 3) := by decide +kernel
theorem dX2_here_19 : decode cX2_here 19 = .ok (.iaload, 1) := by decide +kernel
theorem dX2_here_20 : decode cX2_here 20 = .ok (.goto 4, 3) := by decide +kernel
theorem dX2_here_23 : decode cX2_here 23 = .ok (.iconst (-1), 1) := by decide +kernel
theorem dX2_here_24 : decode cX2_here 24 = .ok (.ireturn, 1) := by decide +kernel
theorem dX2_figure_0 : decode cX2_figure 0 = .ok (.aload_n 0, 1) := by decide +kernel
theorem dX2_figure_1 : decode cX2_figure 1 = .ok (.aload_n 1, 1) := by decide +kernel
theorem dX2_figure_2 : decode cX2_figure 2 = .ok (.invokevirtual 26, 3) := by decide +kernel
theorem dX2_figure_5 : decode cX2_figure 5 = .ok (.bipush 48, 2) := by decide +kernel
theorem dX2_figure_7 : decode cX2_figure 7 = .ok (.isub, 1) := by decide +kernel
theorem dX2_figure_8 : decode cX2_figure 8 = .ok (.istore 4, 2) := by decide +kernel
theorem dX2_figure_10 : decode cX2_figure 10 = .ok (.iload 4, 2) := by decide +kernel
theorem dX2_figure_12 : decode cX2_figure 12 = .ok (.iload_n 2, 1) := by decide +kernel
theorem dX2_figure_13 : decode cX2_figure 13 = .ok (.if_icmp .lt 9, 3) := by decide +kernel
theorem dX2_figure_16 : decode cX2_figure 16 = .ok (.iload 4, 2) := by decide +kernel
theorem dX2_figure_18 : decode cX2_figure 18 = .ok (.iload_n 3, 1) := by decide +kernel
theorem dX2_figure_19 : decode cX2_figure 19 = .ok (.if_icmp .le 5, 3) := by decide +kernel
theorem dX2_figure_22 : decode cX2_figure 22 = .ok (.iconst (-1), 1) := by decide +kernel
theorem dX2_figure_23 : decode cX2_figure 23 = .ok (.ireturn, 1) := by decide +kernel
theorem dX2_figure_24 : decode cX2_figure 24 = .ok (.aload_n 0, 1) := by decide +kernel
theorem dX2_figure_25 : decode cX2_figure 25 = .ok (.dup, 1) := by decide +kernel
theorem dX2_figure_26 : decode cX2_figure 26 = .ok (.getfield 9, 3) := by decide +kernel
theorem dX2_figure_29 : decode cX2_figure 29 = .ok (.iconst 1, 1) := by decide +kernel
theorem dX2_figure_30 : decode cX2_figure 30 = .ok (.iadd, 1) := by decide +kernel
theorem dX2_figure_31 : decode cX2_figure 31 = .ok (.putfield 9, 3) := by decide +kernel
theorem dX2_figure_34 : decode cX2_figure 34 = .ok (.iload 4, 2) := by decide +kernel
theorem dX2_figure_36 : decode cX2_figure 36 = .ok (.ireturn, 1) := by decide +kernel
theorem dX2_kindOf_0 : decode cX2_kindOf 0 = .ok (.iconst 0, 1) := by decide +kernel
theorem dX2_kindOf_1 : decode cX2_kindOf 1 = .ok (.istore_n 1, 1) := by decide +kernel
theorem dX2_kindOf_2 : decode cX2_kindOf 2 = .ok (.iload_n 1, 1) := by decide +kernel
theorem dX2_kindOf_3 : decode cX2_kindOf 3 = .ok (.iconst 5, 1) := by decide +kernel
theorem dX2_kindOf_4 : decode cX2_kindOf 4 = .ok (.if_icmp .gt 20, 3) := by decide +kernel
theorem dX2_kindOf_7 : decode cX2_kindOf 7 = .ok (.getstatic 107, 3) := by decide +kernel
theorem dX2_kindOf_10 : decode cX2_kindOf 10 = .ok (.iload_n 1, 1) := by decide +kernel
theorem dX2_kindOf_11 : decode cX2_kindOf 11 = .ok (.iaload, 1) := by decide +kernel
theorem dX2_kindOf_12 : decode cX2_kindOf 12 = .ok (.iload_n 0, 1) := by decide +kernel
theorem dX2_kindOf_13 : decode cX2_kindOf 13 = .ok (.if_icmp .ne 5, 3) := by decide +kernel
theorem dX2_kindOf_16 : decode cX2_kindOf 16 = .ok (.iload_n 1, 1) := by decide +kernel
theorem dX2_kindOf_17 : decode cX2_kindOf 17 = .ok (.ireturn, 1) := by decide +kernel
theorem dX2_kindOf_18 : decode cX2_kindOf 18 = .ok (.iinc 1 1, 3) := by decide +kernel
theorem dX2_kindOf_21 : decode cX2_kindOf 21 = .ok (.goto (-19), 3) := by decide +kernel
theorem dX2_kindOf_24 : decode cX2_kindOf 24 = .ok (.iconst (-1), 1) := by decide +kernel
theorem dX2_kindOf_25 : decode cX2_kindOf 25 = .ok (.ireturn, 1) := by decide +kernel
theorem dX3_init_0 : decode cX3_init 0 = .ok (.aload_n 0, 1) := by decide +kernel
theorem dX3_init_1 : decode cX3_init 1 = .ok (.invokespecial 1, 3) := by decide +kernel
theorem dX3_init_4 : decode cX3_init 4 = .ok (.aload_n 0, 1) := by decide +kernel
theorem dX3_init_5 : decode cX3_init 5 = .ok (.iconst (-1), 1) := by decide +kernel
theorem dX3_init_6 : decode cX3_init 6 = .ok (.putfield 9, 3) := by decide +kernel
theorem dX3_init_9 : decode cX3_init 9 = .ok (.aload_n 0, 1) := by decide +kernel
theorem dX3_init_10 : decode cX3_init 10 = .ok (.aload_n 1, 1) := by decide +kernel
theorem dX3_init_11 : decode cX3_init 11 = .ok (.putfield 13, 3) := by decide +kernel
theorem dX3_init_14 : decode cX3_init 14 = .ok (.return_, 1) := by decide +kernel
theorem dX3_isMissing_0 : decode cX3_isMissing 0 = .ok (.aload_n 0, 1) := by decide +kernel
theorem dX3_isMissing_1 : decode cX3_isMissing 1 = .ok (.getfield 9, 3) := by decide +kernel
theorem dX3_isMissing_4 : decode cX3_isMissing 4 = .ok (.ifCond .ge 7, 3) := by decide +kernel
theorem dX3_isMissing_7 : decode cX3_isMissing 7 = .ok (.iconst 1, 1) := by decide +kernel
theorem dX3_isMissing_8 : decode cX3_isMissing 8 = .ok (.goto 4, 3) := by decide +kernel
theorem dX3_isMissing_11 : decode cX3_isMissing 11 = .ok (.iconst 0, 1) := by decide +kernel
theorem dX3_isMissing_12 : decode cX3_isMissing 12 = .ok (.ireturn, 1) := by decide +kernel
theorem dX3_hasPlace_0 : decode cX3_hasPlace 0 = .ok (.iload_n 1, 1) := by decide +kernel
theorem dX3_hasPlace_1 : decode cX3_hasPlace 1 = .ok (.ifCond .lt 15, 3) := by decide +kernel
theorem dX3_hasPlace_4 : decode cX3_hasPlace 4 = .ok (.iload_n 1, 1) := by decide +kernel
theorem dX3_hasPlace_5 : decode cX3_hasPlace 5 = .ok (.aload_n 0, 1) := by decide +kernel
theorem dX3_hasPlace_6 : decode cX3_hasPlace 6 = .ok (.getfield 9, 3) := by decide +kernel
theorem dX3_hasPlace_9 : decode cX3_hasPlace 9 = .ok (.if_icmp .ge 7, 3) := by decide +kernel
theorem dX3_hasPlace_12 : decode cX3_hasPlace 12 = .ok (.iconst 1, 1) := by decide +kernel
theorem dX3_hasPlace_13 : decode cX3_hasPlace 13 = .ok (.goto 4, 3) := by decide +kernel
theorem dX3_hasPlace_16 : decode cX3_hasPlace 16 = .ok (.iconst 0, 1) := by decide +kernel
theorem dX3_hasPlace_17 : decode cX3_hasPlace 17 = .ok (.ireturn, 1) := by decide +kernel
theorem dX3_hasRun_0 : decode cX3_hasRun 0 = .ok (.iload_n 1, 1) := by decide +kernel
theorem dX3_hasRun_1 : decode cX3_hasRun 1 = .ok (.ifCond .lt 29, 3) := by decide +kernel
theorem dX3_hasRun_4 : decode cX3_hasRun 4 = .ok (.iload_n 1, 1) := by decide +kernel
theorem dX3_hasRun_5 : decode cX3_hasRun 5 = .ok (.aload_n 0, 1) := by decide +kernel
theorem dX3_hasRun_6 : decode cX3_hasRun 6 = .ok (.getfield 9, 3) := by decide +kernel
theorem dX3_hasRun_9 : decode cX3_hasRun 9 = .ok (.if_icmp .gt 21, 3) := by decide +kernel
theorem dX3_hasRun_12 : decode cX3_hasRun 12 = .ok (.iload_n 2, 1) := by decide +kernel
theorem dX3_hasRun_13 : decode cX3_hasRun 13 = .ok (.ifCond .lt 17, 3) := by decide +kernel
theorem dX3_hasRun_16 : decode cX3_hasRun 16 = .ok (.iload_n 2, 1) := by decide +kernel
theorem dX3_hasRun_17 : decode cX3_hasRun 17 = .ok (.aload_n 0, 1) := by decide +kernel
theorem dX3_hasRun_18 : decode cX3_hasRun 18 = .ok (.getfield 9, 3) := by decide +kernel
theorem dX3_hasRun_21 : decode cX3_hasRun 21 = .ok (.iload_n 1, 1) := by decide +kernel
theorem dX3_hasRun_22 : decode cX3_hasRun 22 = .ok (.isub, 1) := by decide +kernel
theorem dX3_hasRun_23 : decode cX3_hasRun 23 = .ok (.if_icmp .gt 7, 3) := by decide +kernel
theorem dX3_hasRun_26 : decode cX3_hasRun 26 = .ok (.iconst 1, 1) := by decide +kernel
theorem dX3_hasRun_27 : decode cX3_hasRun 27 = .ok (.goto 4, 3) := by decide +kernel
theorem dX3_hasRun_30 : decode cX3_hasRun 30 = .ok (.iconst 0, 1) := by decide +kernel
theorem dX3_hasRun_31 : decode cX3_hasRun 31 = .ok (.ireturn, 1) := by decide +kernel
theorem dX3_layAnew_0 : decode cX3_layAnew 0 = .ok (.aload_n 0, 1) := by decide +kernel
theorem dX3_layAnew_1 : decode cX3_layAnew 1 = .ok (.iconst 0, 1) := by decide +kernel
theorem dX3_layAnew_2 : decode cX3_layAnew 2 = .ok (.iload_n 1, 1) := by decide +kernel
theorem dX3_layAnew_3 : decode cX3_layAnew 3 = .ok (.aload_n 0, 1) := by decide +kernel
theorem dX3_layAnew_4 : decode cX3_layAnew 4 = .ok (.getfield 13, 3) := by decide +kernel
theorem dX3_layAnew_7 : decode cX3_layAnew 7 = .ok (.arraylength, 1) := by decide +kernel
theorem dX3_layAnew_8 : decode cX3_layAnew 8 = .ok (.invokestatic 17, 3) := by decide +kernel
theorem dX3_layAnew_11 : decode cX3_layAnew 11 = .ok (.invokestatic 23, 3) := by decide +kernel
theorem dX3_layAnew_14 : decode cX3_layAnew 14 = .ok (.putfield 9, 3) := by decide +kernel
theorem dX3_layAnew_17 : decode cX3_layAnew 17 = .ok (.iconst 0, 1) := by decide +kernel
theorem dX3_layAnew_18 : decode cX3_layAnew 18 = .ok (.istore_n 3, 1) := by decide +kernel
theorem dX3_layAnew_19 : decode cX3_layAnew 19 = .ok (.iload_n 3, 1) := by decide +kernel
theorem dX3_layAnew_20 : decode cX3_layAnew 20 = .ok (.aload_n 0, 1) := by decide +kernel
theorem dX3_layAnew_21 : decode cX3_layAnew 21 = .ok (.getfield 9, 3) := by decide +kernel
theorem dX3_layAnew_24 : decode cX3_layAnew 24 = .ok (.if_icmp .ge 16, 3) := by decide +kernel
theorem dX3_layAnew_27 : decode cX3_layAnew 27 = .ok (.aload_n 0, 1) := by decide +kernel
theorem dX3_layAnew_28 : decode cX3_layAnew 28 = .ok (.getfield 13, 3) := by decide +kernel
theorem dX3_layAnew_31 : decode cX3_layAnew 31 = .ok (.iload_n 3, 1) := by decide +kernel
theorem dX3_layAnew_32 : decode cX3_layAnew 32 = .ok (.iload_n 2, 1) := by decide +kernel
theorem dX3_layAnew_33 : decode cX3_layAnew 33 = .ok (.iastore, 1) := by decide +kernel
theorem dX3_layAnew_34 : decode cX3_layAnew 34 = .ok (.iinc 3 1, 3) := by decide +kernel
theorem dX3_layAnew_37 : decode cX3_layAnew 37 = .ok (.goto (-18), 3) := by decide +kernel
theorem dX3_layAnew_40 : decode cX3_layAnew 40 = .ok (.return_, 1) := by decide +kernel
theorem dX3_sum_0 : decode cX3_sum 0 = .ok (.lconst 0, 1) := by decide +kernel
theorem dX3_sum_1 : decode cX3_sum 1 = .ok (.lstore_n 1, 1) := by decide +kernel
theorem dX3_sum_2 : decode cX3_sum 2 = .ok (.iconst 0, 1) := by decide +kernel
theorem dX3_sum_3 : decode cX3_sum 3 = .ok (.istore_n 3, 1) := by decide +kernel
theorem dX3_sum_4 : decode cX3_sum 4 = .ok (.iload_n 3, 1) := by decide +kernel
theorem dX3_sum_5 : decode cX3_sum 5 = .ok (.aload_n 0, 1) := by decide +kernel
theorem dX3_sum_6 : decode cX3_sum 6 = .ok (.getfield 9, 3) := by decide +kernel
theorem dX3_sum_9 : decode cX3_sum 9 = .ok (.if_icmp .ge 19, 3) := by decide +kernel
theorem dX3_sum_12 : decode cX3_sum 12 = .ok (.lload_n 1, 1) := by decide +kernel
theorem dX3_sum_13 : decode cX3_sum 13 = .ok (.aload_n 0, 1) := by decide +kernel
theorem dX3_sum_14 : decode cX3_sum 14 = .ok (.getfield 13, 3) := by decide +kernel
theorem dX3_sum_17 : decode cX3_sum 17 = .ok (.iload_n 3, 1) := by decide +kernel
theorem dX3_sum_18 : decode cX3_sum 18 = .ok (.iaload, 1) := by decide +kernel
theorem dX3_sum_19 : decode cX3_sum 19 = .ok (.i2l, 1) := by decide +kernel
theorem dX3_sum_20 : decode cX3_sum 20 = .ok (.ladd, 1) := by decide +kernel
theorem dX3_sum_21 : decode cX3_sum 21 = .ok (.lstore_n 1, 1) := by decide +kernel
theorem dX3_sum_22 : decode cX3_sum 22 = .ok (.iinc 3 1, 3) := by decide +kernel
theorem dX3_sum_25 : decode cX3_sum 25 = .ok (.goto (-21), 3) := by decide +kernel
theorem dX3_sum_28 : decode cX3_sum 28 = .ok (.lload_n 1, 1) := by decide +kernel
theorem dX3_sum_29 : decode cX3_sum 29 = .ok (.lreturn, 1) := by decide +kernel
theorem dX3_digestOn_0 : decode cX3_digestOn 0 = .ok (.ldc2_w 26, 3) := by decide +kernel
theorem dX3_digestOn_3 : decode cX3_digestOn 3 = .ok (.lload_n 1, 1) := by decide +kernel
theorem dX3_digestOn_4 : decode cX3_digestOn 4 = .ok (.lmul, 1) := by decide +kernel
theorem dX3_digestOn_5 : decode cX3_digestOn 5 = .ok (.aload_n 0, 1) := by decide +kernel
theorem dX3_digestOn_6 : decode cX3_digestOn 6 = .ok (.getfield 9, 3) := by decide +kernel
theorem dX3_digestOn_9 : decode cX3_digestOn 9 = .ok (.i2l, 1) := by decide +kernel
theorem dX3_digestOn_10 : decode cX3_digestOn 10 = .ok (.ladd, 1) := by decide +kernel
theorem dX3_digestOn_11 : decode cX3_digestOn 11 = .ok (.lstore_n 3, 1) := by decide +kernel
theorem dX3_digestOn_12 : decode cX3_digestOn 12 = .ok (.iconst 0, 1) := by decide +kernel
theorem dX3_digestOn_13 : decode cX3_digestOn 13 = .ok (.istore 5, 2) := by decide +kernel
theorem dX3_digestOn_15 : decode cX3_digestOn 15 = .ok (.iload 5, 2) := by decide +kernel
theorem dX3_digestOn_17 : decode cX3_digestOn 17 = .ok (.aload_n 0, 1) := by decide +kernel
theorem dX3_digestOn_18 : decode cX3_digestOn 18 = .ok (.getfield 9, 3) := by decide +kernel
theorem dX3_digestOn_21 : decode cX3_digestOn 21 = .ok (.if_icmp .ge 24, 3) := by decide +kernel
theorem dX3_digestOn_24 : decode cX3_digestOn 24 = .ok (.ldc2_w 26, 3) := by decide +kernel
theorem dX3_digestOn_27 : decode cX3_digestOn 27 = .ok (.lload_n 3, 1) := by decide +kernel
theorem dX3_digestOn_28 : decode cX3_digestOn 28 = .ok (.lmul, 1) := by decide +kernel
theorem dX3_digestOn_29 : decode cX3_digestOn 29 = .ok (.aload_n 0, 1) := by decide +kernel
theorem dX3_digestOn_30 : decode cX3_digestOn 30 = .ok (.getfield 13, 3) := by decide +kernel
theorem dX3_digestOn_33 : decode cX3_digestOn 33 = .ok (.iload 5, 2) := by decide +kernel
theorem dX3_digestOn_35 : decode cX3_digestOn 35 = .ok (.iaload, 1) := by decide +kernel
theorem dX3_digestOn_36 : decode cX3_digestOn 36 = .ok (.i2l, 1) := by decide +kernel
theorem dX3_digestOn_37 : decode cX3_digestOn 37 = .ok (.ladd, 1) := by decide +kernel
theorem dX3_digestOn_38 : decode cX3_digestOn 38 = .ok (.lstore_n 3, 1) := by decide +kernel
theorem dX3_digestOn_39 : decode cX3_digestOn 39 = .ok (.iinc 5 1, 3) := by decide +kernel
theorem dX3_digestOn_42 : decode cX3_digestOn 42 = .ok (.goto (-27), 3) := by decide +kernel
theorem dX3_digestOn_45 : decode cX3_digestOn 45 = .ok (.lload_n 3, 1) := by decide +kernel
theorem dX3_digestOn_46 : decode cX3_digestOn 46 = .ok (.lreturn, 1) := by decide +kernel
