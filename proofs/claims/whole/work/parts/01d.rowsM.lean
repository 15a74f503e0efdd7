theorem dX5_init_0 : decode cX5_init 0 = .ok (.aload_n 0, 1) := by decide +kernel
theorem dX5_init_1 : decode cX5_init 1 = .ok (.invokespecial 1, 3) := by decide +kernel
theorem dX5_init_4 : decode cX5_init 4 = .ok (.aload_n 0, 1) := by decide +kernel
theorem dX5_init_5 : decode cX5_init 5 = .ok (.iconst 4, 1) := by decide +kernel
theorem dX5_init_6 : decode cX5_init 6 = .ok (.newarray .int, 2) := by decide +kernel
theorem dX5_init_8 : decode cX5_init 8 = .ok (.putfield 7, 3) := by decide +kernel
theorem dX5_init_11 : decode cX5_init 11 = .ok (.aload_n 0, 1) := by decide +kernel
theorem dX5_init_12 : decode cX5_init 12 = .ok (.iconst 4, 1) := by decide +kernel
theorem dX5_init_13 : decode cX5_init 13 = .ok (.newarray .int, 2) := by decide +kernel
theorem dX5_init_15 : decode cX5_init 15 = .ok (.putfield 13, 3) := by decide +kernel
theorem dX5_init_18 : decode cX5_init 18 = .ok (.aload_n 0, 1) := by decide +kernel
theorem dX5_init_19 : decode cX5_init 19 = .ok (.sipush 240, 3) := by decide +kernel
theorem dX5_init_22 : decode cX5_init 22 = .ok (.newarray .int, 2) := by decide +kernel
theorem dX5_init_24 : decode cX5_init 24 = .ok (.putfield 16, 3) := by decide +kernel
theorem dX5_init_27 : decode cX5_init 27 = .ok (.aload_n 0, 1) := by decide +kernel
theorem dX5_init_28 : decode cX5_init 28 = .ok (.bipush 60, 2) := by decide +kernel
theorem dX5_init_30 : decode cX5_init 30 = .ok (.newarray .int, 2) := by decide +kernel
theorem dX5_init_32 : decode cX5_init 32 = .ok (.putfield 19, 3) := by decide +kernel
theorem dX5_init_35 : decode cX5_init 35 = .ok (.aload_n 0, 1) := by decide +kernel
theorem dX5_init_36 : decode cX5_init 36 = .ok (.bipush 60, 2) := by decide +kernel
theorem dX5_init_38 : decode cX5_init 38 = .ok (.newarray .int, 2) := by decide +kernel
theorem dX5_init_40 : decode cX5_init 40 = .ok (.putfield 22, 3) := by decide +kernel
theorem dX5_init_43 : decode cX5_init 43 = .ok (.aload_n 0, 1) := by decide +kernel
theorem dX5_init_44 : decode cX5_init 44 = .ok (.bipush 36, 2) := by decide +kernel
theorem dX5_init_46 : decode cX5_init 46 = .ok (.newarray .int, 2) := by decide +kernel
theorem dX5_init_48 : decode cX5_init 48 = .ok (.putfield 25, 3) := by decide +kernel
theorem dX5_init_51 : decode cX5_init 51 = .ok (.aload_n 0, 1) := by decide +kernel
theorem dX5_init_52 : decode cX5_init 52 = .ok (.bipush 30, 2) := by decide +kernel
theorem dX5_init_54 : decode cX5_init 54 = .ok (.newarray .int, 2) := by decide +kernel
theorem dX5_init_56 : decode cX5_init 56 = .ok (.putfield 28, 3) := by decide +kernel
theorem dX5_init_59 : decode cX5_init 59 = .ok (.aload_n 0, 1) := by decide +kernel
theorem dX5_init_60 : decode cX5_init 60 = .ok (.bipush 72, 2) := by decide +kernel
theorem dX5_init_62 : decode cX5_init 62 = .ok (.newarray .int, 2) := by decide +kernel
theorem dX5_init_64 : decode cX5_init 64 = .ok (.putfield 31, 3) := by decide +kernel
theorem dX5_init_67 : decode cX5_init 67 = .ok (.aload_n 0, 1) := by decide +kernel
theorem dX5_init_68 : decode cX5_init 68 = .ok (.bipush 15, 2) := by decide +kernel
theorem dX5_init_70 : decode cX5_init 70 = .ok (.newarray .boolean, 2) := by decide +kernel
theorem dX5_init_72 : decode cX5_init 72 = .ok (.putfield 34, 3) := by decide +kernel
theorem dX5_init_75 : decode cX5_init 75 = .ok (.aload_n 0, 1) := by decide +kernel
theorem dX5_init_76 : decode cX5_init 76 = .ok (.bipush 12, 2) := by decide +kernel
theorem dX5_init_78 : decode cX5_init 78 = .ok (.newarray .int, 2) := by decide +kernel
theorem dX5_init_80 : decode cX5_init 80 = .ok (.putfield 38, 3) := by decide +kernel
theorem dX5_init_83 : decode cX5_init 83 = .ok (.aload_n 0, 1) := by decide +kernel
theorem dX5_init_84 : decode cX5_init 84 = .ok (.bipush 16, 2) := by decide +kernel
theorem dX5_init_86 : decode cX5_init 86 = .ok (.newarray .int, 2) := by decide +kernel
theorem dX5_init_88 : decode cX5_init 88 = .ok (.putfield 41, 3) := by decide +kernel
theorem dX5_init_91 : decode cX5_init 91 = .ok (.iconst 0, 1) := by decide +kernel
theorem dX5_init_92 : decode cX5_init 92 = .ok (.istore_n 1, 1) := by decide +kernel
theorem dX5_init_93 : decode cX5_init 93 = .ok (.iload_n 1, 1) := by decide +kernel
theorem dX5_init_94 : decode cX5_init 94 = .ok (.iconst 4, 1) := by decide +kernel
theorem dX5_init_95 : decode cX5_init 95 = .ok (.if_icmp .ge 16, 3) := by decide +kernel
theorem dX5_init_98 : decode cX5_init 98 = .ok (.aload_n 0, 1) := by decide +kernel
theorem dX5_init_99 : decode cX5_init 99 = .ok (.getfield 7, 3) := by decide +kernel
theorem dX5_init_102 : decode cX5_init 102 = .ok (.iload_n 1, 1) := by decide +kernel
theorem dX5_init_103 : decode cX5_init 103 = .ok (.iconst (-1), 1) := by decide +kernel
theorem dX5_init_104 : decode cX5_init 104 = .ok (.iastore, 1) := by decide +kernel
theorem dX5_init_105 : decode cX5_init 105 = .ok (.iinc 1 1, 3) := by decide +kernel
theorem dX5_init_108 : decode cX5_init 108 = .ok (.goto (-15), 3) := by decide +kernel
theorem dX5_init_111 : decode cX5_init 111 = .ok (.return_, 1) := by decide +kernel
theorem dX5_in_0 : decode cX5_in 0 = .ok (.lload_n 0, 1) := by decide +kernel
theorem dX5_in_1 : decode cX5_in 1 = .ok (.lload_n 2, 1) := by decide +kernel
theorem dX5_in_2 : decode cX5_in 2 = .ok (.lcmp, 1) := by decide +kernel
theorem dX5_in_3 : decode cX5_in 3 = .ok (.ifCond .lt 14, 3) := by decide +kernel
theorem dX5_in_6 : decode cX5_in 6 = .ok (.lload_n 0, 1) := by decide +kernel
theorem dX5_in_7 : decode cX5_in 7 = .ok (.lload 4, 2) := by decide +kernel
theorem dX5_in_9 : decode cX5_in 9 = .ok (.lcmp, 1) := by decide +kernel
theorem dX5_in_10 : decode cX5_in 10 = .ok (.ifCond .gt 7, 3) := by decide +kernel
theorem dX5_in_13 : decode cX5_in 13 = .ok (.iconst 1, 1) := by decide +kernel
theorem dX5_in_14 : decode cX5_in 14 = .ok (.goto 4, 3) := by decide +kernel
theorem dX5_in_17 : decode cX5_in 17 = .ok (.iconst 0, 1) := by decide +kernel
theorem dX5_in_18 : decode cX5_in 18 = .ok (.ireturn, 1) := by decide +kernel
theorem dX5_isTwo_0 : decode cX5_isTwo 0 = .ok (.iload_n 0, 1) := by decide +kernel
theorem dX5_isTwo_1 : decode cX5_isTwo 1 = .ok (.i2l, 1) := by decide +kernel
theorem dX5_isTwo_2 : decode cX5_isTwo 2 = .ok (.lconst 0, 1) := by decide +kernel
theorem dX5_isTwo_3 : decode cX5_isTwo 3 = .ok (.lconst 1, 1) := by decide +kernel
theorem dX5_isTwo_4 : decode cX5_isTwo 4 = .ok (.invokestatic 44, 3) := by decide +kernel
theorem dX5_isTwo_7 : decode cX5_isTwo 7 = .ok (.ireturn, 1) := by decide +kernel
theorem dX5_isIn_0 : decode cX5_isIn 0 = .ok (.iload_n 0, 1) := by decide +kernel
theorem dX5_isIn_1 : decode cX5_isIn 1 = .ok (.iload_n 1, 1) := by decide +kernel
theorem dX5_isIn_2 : decode cX5_isIn 2 = .ok (.ishr, 1) := by decide +kernel
theorem dX5_isIn_3 : decode cX5_isIn 3 = .ok (.iconst 1, 1) := by decide +kernel
theorem dX5_isIn_4 : decode cX5_isIn 4 = .ok (.iand, 1) := by decide +kernel
theorem dX5_isIn_5 : decode cX5_isIn 5 = .ok (.iconst 1, 1) := by decide +kernel
theorem dX5_isIn_6 : decode cX5_isIn 6 = .ok (.if_icmp .ne 7, 3) := by decide +kernel
theorem dX5_isIn_9 : decode cX5_isIn 9 = .ok (.iconst 1, 1) := by decide +kernel
theorem dX5_isIn_10 : decode cX5_isIn 10 = .ok (.goto 4, 3) := by decide +kernel
theorem dX5_isIn_13 : decode cX5_isIn 13 = .ok (.iconst 0, 1) := by decide +kernel
theorem dX5_isIn_14 : decode cX5_isIn 14 = .ok (.ireturn, 1) := by decide +kernel
theorem dX5_ones_0 : decode cX5_ones 0 = .ok (.iconst 0, 1) := by decide +kernel
theorem dX5_ones_1 : decode cX5_ones 1 = .ok (.istore_n 1, 1) := by decide +kernel
theorem dX5_ones_2 : decode cX5_ones 2 = .ok (.iload_n 0, 1) := by decide +kernel
theorem dX5_ones_3 : decode cX5_ones 3 = .ok (.istore_n 2, 1) := by decide +kernel
theorem dX5_ones_4 : decode cX5_ones 4 = .ok (.iload_n 2, 1) := by decide +kernel
theorem dX5_ones_5 : decode cX5_ones 5 = .ok (.ifCond .eq 15, 3) := by decide +kernel
theorem dX5_ones_8 : decode cX5_ones 8 = .ok (.iinc 1 1, 3) := by decide +kernel
theorem dX5_ones_11 : decode cX5_ones 11 = .ok (.iload_n 2, 1) := by decide +kernel
theorem dX5_ones_12 : decode cX5_ones 12 = .ok (.iload_n 2, 1) := by decide +kernel
theorem dX5_ones_13 : decode cX5_ones 13 = .ok (.iconst 1, 1) := by decide +kernel
theorem dX5_ones_14 : decode cX5_ones 14 = .ok (.isub, 1) := by decide +kernel
theorem dX5_ones_15 : decode cX5_ones 15 = .ok (.iand, 1) := by decide +kernel
theorem dX5_ones_16 : decode cX5_ones 16 = .ok (.istore_n 2, 1) := by decide +kernel
theorem dX5_ones_17 : decode cX5_ones 17 = .ok (.goto (-13), 3) := by decide +kernel
theorem dX5_ones_20 : decode cX5_ones 20 = .ok (.iload_n 1, 1) := by decide +kernel
theorem dX5_ones_21 : decode cX5_ones 21 = .ok (.ireturn, 1) := by decide +kernel
theorem dX5_met_0 : decode cX5_met 0 = .ok (.aload_n 0, 1) := by decide +kernel
theorem dX5_met_1 : decode cX5_met 1 = .ok (.iload_n 1, 1) := by decide +kernel
theorem dX5_met_2 : decode cX5_met 2 = .ok (.putfield 48, 3) := by decide +kernel
theorem dX5_met_5 : decode cX5_met 5 = .ok (.bipush (-10), 2) := by decide +kernel
theorem dX5_met_7 : decode cX5_met 7 = .ok (.iload_n 1, 1) := by decide +kernel
theorem dX5_met_8 : decode cX5_met 8 = .ok (.isub, 1) := by decide +kernel
theorem dX5_met_9 : decode cX5_met 9 = .ok (.ireturn, 1) := by decide +kernel
theorem dX5_isSheet_0 : decode cX5_isSheet 0 = .ok (.iload_n 0, 1) := by decide +kernel
theorem dX5_isSheet_1 : decode cX5_isSheet 1 = .ok (.i2l, 1) := by decide +kernel
theorem dX5_isSheet_2 : decode cX5_isSheet 2 = .ok (.lconst 0, 1) := by decide +kernel
theorem dX5_isSheet_3 : decode cX5_isSheet 3 = .ok (.ldc2_w 52, 3) := by decide +kernel
theorem dX5_isSheet_6 : decode cX5_isSheet 6 = .ok (.invokestatic 44, 3) := by decide +kernel
theorem dX5_isSheet_9 : decode cX5_isSheet 9 = .ok (.ireturn, 1) := by decide +kernel
theorem dX5_sheet_0 : decode cX5_sheet 0 = .ok (.iload_n 1, 1) := by decide +kernel
theorem dX5_sheet_1 : decode cX5_sheet 1 = .ok (.invokestatic 54, 3) := by decide +kernel
theorem dX5_sheet_4 : decode cX5_sheet 4 = .ok (.ifCond .eq 21, 3) := by decide +kernel
theorem dX5_sheet_7 : decode cX5_sheet 7 = .ok (.iload_n 2, 1) := by decide +kernel
theorem dX5_sheet_8 : decode cX5_sheet 8 = .ok (.i2l, 1) := by decide +kernel
theorem dX5_sheet_9 : decode cX5_sheet 9 = .ok (.lconst 0, 1) := by decide +kernel
theorem dX5_sheet_10 : decode cX5_sheet 10 = .ok (.ldc2_w 58, 3) := by decide +kernel
theorem dX5_sheet_13 : decode cX5_sheet 13 = .ok (.invokestatic 44, 3) := by decide +kernel
theorem dX5_sheet_16 : decode cX5_sheet 16 = .ok (.ifCond .eq 9, 3) := by decide +kernel
theorem dX5_sheet_19 : decode cX5_sheet 19 = .ok (.iload_n 3, 1) := by decide +kernel
theorem dX5_sheet_20 : decode cX5_sheet 20 = .ok (.bipush 60, 2) := by decide +kernel
theorem dX5_sheet_22 : decode cX5_sheet 22 = .ok (.if_icmp .le 6, 3) := by decide +kernel
theorem dX5_sheet_25 : decode cX5_sheet 25 = .ok (.bipush (-2), 2) := by decide +kernel
theorem dX5_sheet_27 : decode cX5_sheet 27 = .ok (.ireturn, 1) := by decide +kernel
theorem dX5_sheet_28 : decode cX5_sheet 28 = .ok (.iload_n 3, 1) := by decide +kernel
theorem dX5_sheet_29 : decode cX5_sheet 29 = .ok (.ifCond .ge 9, 3) := by decide +kernel
theorem dX5_sheet_32 : decode cX5_sheet 32 = .ok (.aload_n 0, 1) := by decide +kernel
theorem dX5_sheet_33 : decode cX5_sheet 33 = .ok (.iconst 5, 1) := by decide +kernel
theorem dX5_sheet_34 : decode cX5_sheet 34 = .ok (.invokevirtual 60, 3) := by decide +kernel
theorem dX5_sheet_37 : decode cX5_sheet 37 = .ok (.ireturn, 1) := by decide +kernel
theorem dX5_sheet_38 : decode cX5_sheet 38 = .ok (.aload_n 0, 1) := by decide +kernel
theorem dX5_sheet_39 : decode cX5_sheet 39 = .ok (.getfield 7, 3) := by decide +kernel
theorem dX5_sheet_42 : decode cX5_sheet 42 = .ok (.iload_n 1, 1) := by decide +kernel
theorem dX5_sheet_43 : decode cX5_sheet 43 = .ok (.iload_n 2, 1) := by decide +kernel
theorem dX5_sheet_44 : decode cX5_sheet 44 = .ok (.iastore, 1) := by decide +kernel
theorem dX5_sheet_45 : decode cX5_sheet 45 = .ok (.aload_n 0, 1) := by decide +kernel
theorem dX5_sheet_46 : decode cX5_sheet 46 = .ok (.getfield 13, 3) := by decide +kernel
theorem dX5_sheet_49 : decode cX5_sheet 49 = .ok (.iload_n 1, 1) := by decide +kernel
theorem dX5_sheet_50 : decode cX5_sheet 50 = .ok (.iload_n 3, 1) := by decide +kernel
theorem dX5_sheet_51 : decode cX5_sheet 51 = .ok (.iastore, 1) := by decide +kernel
theorem dX5_sheet_52 : decode cX5_sheet 52 = .ok (.iconst 0, 1) := by decide +kernel
theorem dX5_sheet_53 : decode cX5_sheet 53 = .ok (.istore 4, 2) := by decide +kernel
theorem dX5_sheet_55 : decode cX5_sheet 55 = .ok (.iload 4, 2) := by decide +kernel
theorem dX5_sheet_57 : decode cX5_sheet 57 = .ok (.iload_n 3, 1) := by decide +kernel
theorem dX5_sheet_58 : decode cX5_sheet 58 = .ok (.if_icmp .ge 22, 3) := by decide +kernel
theorem dX5_sheet_61 : decode cX5_sheet 61 = .ok (.aload_n 0, 1) := by decide +kernel
theorem dX5_sheet_62 : decode cX5_sheet 62 = .ok (.getfield 16, 3) := by decide +kernel
theorem dX5_sheet_65 : decode cX5_sheet 65 = .ok (.bipush 60, 2) := by decide +kernel
theorem dX5_sheet_67 : decode cX5_sheet 67 = .ok (.iload_n 1, 1) := by decide +kernel
theorem dX5_sheet_68 : decode cX5_sheet 68 = .ok (.imul, 1) := by decide +kernel
theorem dX5_sheet_69 : decode cX5_sheet 69 = .ok (.iload 4, 2) := by decide +kernel
theorem dX5_sheet_71 : decode cX5_sheet 71 = .ok (.iadd, 1) := by decide +kernel
theorem dX5_sheet_72 : decode cX5_sheet 72 = .ok (.iconst 0, 1) := by decide +kernel
theorem dX5_sheet_73 : decode cX5_sheet 73 = .ok (.iastore, 1) := by decide +kernel
theorem dX5_sheet_74 : decode cX5_sheet 74 = .ok (.iinc 4 1, 3) := by decide +kernel
theorem dX5_sheet_77 : decode cX5_sheet 77 = .ok (.goto (-22), 3) := by decide +kernel
theorem dX5_sheet_80 : decode cX5_sheet 80 = .ok (.iload_n 3, 1) := by decide +kernel
theorem dX5_sheet_81 : decode cX5_sheet 81 = .ok (.ireturn, 1) := by decide +kernel
theorem dX5_lose_0 : decode cX5_lose 0 = .ok (.iload_n 1, 1) := by decide +kernel
theorem dX5_lose_1 : decode cX5_lose 1 = .ok (.invokestatic 54, 3) := by decide +kernel
theorem dX5_lose_4 : decode cX5_lose 4 = .ok (.ifCond .ne 6, 3) := by decide +kernel
theorem dX5_lose_7 : decode cX5_lose 7 = .ok (.bipush (-2), 2) := by decide +kernel
theorem dX5_lose_9 : decode cX5_lose 9 = .ok (.ireturn, 1) := by decide +kernel
theorem dX5_lose_10 : decode cX5_lose 10 = .ok (.aload_n 0, 1) := by decide +kernel
theorem dX5_lose_11 : decode cX5_lose 11 = .ok (.getfield 7, 3) := by decide +kernel
theorem dX5_lose_14 : decode cX5_lose 14 = .ok (.iload_n 1, 1) := by decide +kernel
theorem dX5_lose_15 : decode cX5_lose 15 = .ok (.iaload, 1) := by decide +kernel
theorem dX5_lose_16 : decode cX5_lose 16 = .ok (.ifCond .ge 9, 3) := by decide +kernel
theorem dX5_lose_19 : decode cX5_lose 19 = .ok (.aload_n 0, 1) := by decide +kernel
theorem dX5_lose_20 : decode cX5_lose 20 = .ok (.iconst 1, 1) := by decide +kernel
theorem dX5_lose_21 : decode cX5_lose 21 = .ok (.invokevirtual 60, 3) := by decide +kernel
theorem dX5_lose_24 : decode cX5_lose 24 = .ok (.ireturn, 1) := by decide +kernel
theorem dX5_lose_25 : decode cX5_lose 25 = .ok (.aload_n 0, 1) := by decide +kernel
theorem dX5_lose_26 : decode cX5_lose 26 = .ok (.getfield 7, 3) := by decide +kernel
theorem dX5_lose_29 : decode cX5_lose 29 = .ok (.iload_n 1, 1) := by decide +kernel
theorem dX5_lose_30 : decode cX5_lose 30 = .ok (.iconst (-1), 1) := by decide +kernel
theorem dX5_lose_31 : decode cX5_lose 31 = .ok (.iastore, 1) := by decide +kernel
theorem dX5_lose_32 : decode cX5_lose 32 = .ok (.aload_n 0, 1) := by decide +kernel
theorem dX5_lose_33 : decode cX5_lose 33 = .ok (.getfield 13, 3) := by decide +kernel
theorem dX5_lose_36 : decode cX5_lose 36 = .ok (.iload_n 1, 1) := by decide +kernel
theorem dX5_lose_37 : decode cX5_lose 37 = .ok (.iaload, 1) := by decide +kernel
theorem dX5_lose_38 : decode cX5_lose 38 = .ok (.ireturn, 1) := by decide +kernel
theorem dX5_lacks_0 : decode cX5_lacks 0 = .ok (.aload_n 0, 1) := by decide +kernel
theorem dX5_lacks_1 : decode cX5_lacks 1 = .ok (.getfield 7, 3) := by decide +kernel
theorem dX5_lacks_4 : decode cX5_lacks 4 = .ok (.iload_n 1, 1) := by decide +kernel
theorem dX5_lacks_5 : decode cX5_lacks 5 = .ok (.iaload, 1) := by decide +kernel
theorem dX5_lacks_6 : decode cX5_lacks 6 = .ok (.ifCond .ge 9, 3) := by decide +kernel
theorem dX5_lacks_9 : decode cX5_lacks 9 = .ok (.aload_n 0, 1) := by decide +kernel
theorem dX5_lacks_10 : decode cX5_lacks 10 = .ok (.iconst 1, 1) := by decide +kernel
theorem dX5_lacks_11 : decode cX5_lacks 11 = .ok (.invokevirtual 60, 3) := by decide +kernel
theorem dX5_lacks_14 : decode cX5_lacks 14 = .ok (.ireturn, 1) := by decide +kernel
theorem dX5_lacks_15 : decode cX5_lacks 15 = .ok (.aload_n 0, 1) := by decide +kernel
theorem dX5_lacks_16 : decode cX5_lacks 16 = .ok (.getfield 7, 3) := by decide +kernel
theorem dX5_lacks_19 : decode cX5_lacks 19 = .ok (.iload_n 1, 1) := by decide +kernel
theorem dX5_lacks_20 : decode cX5_lacks 20 = .ok (.iaload, 1) := by decide +kernel
theorem dX5_lacks_21 : decode cX5_lacks 21 = .ok (.iload_n 2, 1) := by decide +kernel
theorem dX5_lacks_22 : decode cX5_lacks 22 = .ok (.if_icmp .eq 9, 3) := by decide +kernel
theorem dX5_lacks_25 : decode cX5_lacks 25 = .ok (.aload_n 0, 1) := by decide +kernel
theorem dX5_lacks_26 : decode cX5_lacks 26 = .ok (.iconst 3, 1) := by decide +kernel
theorem dX5_lacks_27 : decode cX5_lacks 27 = .ok (.invokevirtual 60, 3) := by decide +kernel
theorem dX5_lacks_30 : decode cX5_lacks 30 = .ok (.ireturn, 1) := by decide +kernel
theorem dX5_lacks_31 : decode cX5_lacks 31 = .ok (.iload_n 3, 1) := by decide +kernel
theorem dX5_lacks_32 : decode cX5_lacks 32 = .ok (.i2l, 1) := by decide +kernel
theorem dX5_lacks_33 : decode cX5_lacks 33 = .ok (.lconst 0, 1) := by decide +kernel
theorem dX5_lacks_34 : decode cX5_lacks 34 = .ok (.aload_n 0, 1) := by decide +kernel
theorem dX5_lacks_35 : decode cX5_lacks 35 = .ok (.getfield 13, 3) := by decide +kernel
theorem dX5_lacks_38 : decode cX5_lacks 38 = .ok (.iload_n 1, 1) := by decide +kernel
theorem dX5_lacks_39 : decode cX5_lacks 39 = .ok (.iaload, 1) := by decide +kernel
theorem dX5_lacks_40 : decode cX5_lacks 40 = .ok (.iconst 1, 1) := by decide +kernel
theorem dX5_lacks_41 : decode cX5_lacks 41 = .ok (.isub, 1) := by decide +kernel
theorem dX5_lacks_42 : decode cX5_lacks 42 = .ok (.i2l, 1) := by decide +kernel
theorem dX5_lacks_43 : decode cX5_lacks 43 = .ok (.invokestatic 44, 3) := by decide +kernel
theorem dX5_lacks_46 : decode cX5_lacks 46 = .ok (.ifCond .eq 7, 3) := by decide +kernel
theorem dX5_lacks_49 : decode cX5_lacks 49 = .ok (.iconst 0, 1) := by decide +kernel
theorem dX5_lacks_50 : decode cX5_lacks 50 = .ok (.goto 8, 3) := by decide +kernel
theorem dX5_lacks_53 : decode cX5_lacks 53 = .ok (.aload_n 0, 1) := by decide +kernel
theorem dX5_lacks_54 : decode cX5_lacks 54 = .ok (.iconst 2, 1) := by decide +kernel
theorem dX5_lacks_55 : decode cX5_lacks 55 = .ok (.invokevirtual 60, 3) := by decide +kernel
theorem dX5_lacks_58 : decode cX5_lacks 58 = .ok (.ireturn, 1) := by decide +kernel
theorem dX5_cut_0 : decode cX5_cut 0 = .ok (.iload_n 0, 1) := by decide +kernel
theorem dX5_cut_1 : decode cX5_cut 1 = .ok (.ifCond .ne 8, 3) := by decide +kernel
theorem dX5_cut_4 : decode cX5_cut 4 = .ok (.iload_n 1, 1) := by decide +kernel
theorem dX5_cut_5 : decode cX5_cut 5 = .ok (.i2b, 1) := by decide +kernel
theorem dX5_cut_6 : decode cX5_cut 6 = .ok (.goto 14, 3) := by decide +kernel
theorem dX5_cut_9 : decode cX5_cut 9 = .ok (.iload_n 0, 1) := by decide +kernel
theorem dX5_cut_10 : decode cX5_cut 10 = .ok (.iconst 1, 1) := by decide +kernel
theorem dX5_cut_11 : decode cX5_cut 11 = .ok (.if_icmp .ne 8, 3) := by decide +kernel
theorem dX5_cut_14 : decode cX5_cut 14 = .ok (.iload_n 1, 1) := by decide +kernel
theorem dX5_cut_15 : decode cX5_cut 15 = .ok (.i2s, 1) := by decide +kernel
theorem dX5_cut_16 : decode cX5_cut 16 = .ok (.goto 4, 3) := by decide +kernel
theorem dX5_cut_19 : decode cX5_cut 19 = .ok (.iload_n 1, 1) := by decide +kernel
theorem dX5_cut_20 : decode cX5_cut 20 = .ok (.ireturn, 1) := by decide +kernel
theorem dX5_lay_0 : decode cX5_lay 0 = .ok (.iload_n 1, 1) := by decide +kernel
theorem dX5_lay_1 : decode cX5_lay 1 = .ok (.invokestatic 54, 3) := by decide +kernel
theorem dX5_lay_4 : decode cX5_lay 4 = .ok (.ifCond .eq 15, 3) := by decide +kernel
theorem dX5_lay_7 : decode cX5_lay 7 = .ok (.iload_n 2, 1) := by decide +kernel
theorem dX5_lay_8 : decode cX5_lay 8 = .ok (.i2l, 1) := by decide +kernel
theorem dX5_lay_9 : decode cX5_lay 9 = .ok (.lconst 0, 1) := by decide +kernel
theorem dX5_lay_10 : decode cX5_lay 10 = .ok (.ldc2_w 58, 3) := by decide +kernel
theorem dX5_lay_13 : decode cX5_lay 13 = .ok (.invokestatic 44, 3) := by decide +kernel
theorem dX5_lay_16 : decode cX5_lay 16 = .ok (.ifCond .ne 6, 3) := by decide +kernel
theorem dX5_lay_19 : decode cX5_lay 19 = .ok (.bipush (-2), 2) := by decide +kernel
theorem dX5_lay_21 : decode cX5_lay 21 = .ok (.ireturn, 1) := by decide +kernel
theorem dX5_lay_22 : decode cX5_lay 22 = .ok (.aload_n 0, 1) := by decide +kernel
theorem dX5_lay_23 : decode cX5_lay 23 = .ok (.iload_n 1, 1) := by decide +kernel
theorem dX5_lay_24 : decode cX5_lay 24 = .ok (.iload_n 2, 1) := by decide +kernel
theorem dX5_lay_25 : decode cX5_lay 25 = .ok (.iload_n 3, 1) := by decide +kernel
theorem dX5_lay_26 : decode cX5_lay 26 = .ok (.invokevirtual 64, 3) := by decide +kernel
theorem dX5_lay_29 : decode cX5_lay 29 = .ok (.istore 5, 2) := by decide +kernel
theorem dX5_lay_31 : decode cX5_lay 31 = .ok (.iload 5, 2) := by decide +kernel
theorem dX5_lay_33 : decode cX5_lay 33 = .ok (.ifCond .eq 6, 3) := by decide +kernel
theorem dX5_lay_36 : decode cX5_lay 36 = .ok (.iload 5, 2) := by decide +kernel
theorem dX5_lay_38 : decode cX5_lay 38 = .ok (.ireturn, 1) := by decide +kernel
theorem dX5_lay_39 : decode cX5_lay 39 = .ok (.aload_n 0, 1) := by decide +kernel
theorem dX5_lay_40 : decode cX5_lay 40 = .ok (.getfield 16, 3) := by decide +kernel
theorem dX5_lay_43 : decode cX5_lay 43 = .ok (.bipush 60, 2) := by decide +kernel
theorem dX5_lay_45 : decode cX5_lay 45 = .ok (.iload_n 1, 1) := by decide +kernel
theorem dX5_lay_46 : decode cX5_lay 46 = .ok (.imul, 1) := by decide +kernel
theorem dX5_lay_47 : decode cX5_lay 47 = .ok (.iload_n 3, 1) := by decide +kernel
theorem dX5_lay_48 : decode cX5_lay 48 = .ok (.iadd, 1) := by decide +kernel
theorem dX5_lay_49 : decode cX5_lay 49 = .ok (.iload_n 2, 1) := by decide +kernel
theorem dX5_lay_50 : decode cX5_lay 50 = .ok (.iload 4, 2) := by decide +kernel
theorem dX5_lay_52 : decode cX5_lay 52 = .ok (.invokestatic 68, 3) := by decide +kernel
theorem dX5_lay_55 : decode cX5_lay 55 = .ok (.iastore, 1) := by decide +kernel
theorem dX5_lay_56 : decode cX5_lay 56 = .ok (.iconst 1, 1) := by decide +kernel
theorem dX5_lay_57 : decode cX5_lay 57 = .ok (.ireturn, 1) := by decide +kernel
theorem dX5_get_0 : decode cX5_get 0 = .ok (.iload_n 1, 1) := by decide +kernel
theorem dX5_get_1 : decode cX5_get 1 = .ok (.invokestatic 54, 3) := by decide +kernel
theorem dX5_get_4 : decode cX5_get 4 = .ok (.ifCond .eq 25, 3) := by decide +kernel
theorem dX5_get_7 : decode cX5_get 7 = .ok (.iload_n 2, 1) := by decide +kernel
theorem dX5_get_8 : decode cX5_get 8 = .ok (.i2l, 1) := by decide +kernel
theorem dX5_get_9 : decode cX5_get 9 = .ok (.lconst 0, 1) := by decide +kernel
theorem dX5_get_10 : decode cX5_get 10 = .ok (.ldc2_w 58, 3) := by decide +kernel
theorem dX5_get_13 : decode cX5_get 13 = .ok (.invokestatic 44, 3) := by decide +kernel
theorem dX5_get_16 : decode cX5_get 16 = .ok (.ifCond .eq 13, 3) := by decide +kernel
theorem dX5_get_19 : decode cX5_get 19 = .ok (.aload_n 0, 1) := by decide +kernel
theorem dX5_get_20 : decode cX5_get 20 = .ok (.iload_n 1, 1) := by decide +kernel
theorem dX5_get_21 : decode cX5_get 21 = .ok (.iload_n 2, 1) := by decide +kernel
theorem dX5_get_22 : decode cX5_get 22 = .ok (.iload_n 3, 1) := by decide +kernel
theorem dX5_get_23 : decode cX5_get 23 = .ok (.invokevirtual 64, 3) := by decide +kernel
theorem dX5_get_26 : decode cX5_get 26 = .ok (.ifCond .eq 6, 3) := by decide +kernel
theorem dX5_get_29 : decode cX5_get 29 = .ok (.ldc 72, 2) := by decide +kernel
theorem dX5_get_31 : decode cX5_get 31 = .ok (.ireturn, 1) := by decide +kernel
theorem dX5_get_32 : decode cX5_get 32 = .ok (.aload_n 0, 1) := by decide +kernel
theorem dX5_get_33 : decode cX5_get 33 = .ok (.getfield 16, 3) := by decide +kernel
theorem dX5_get_36 : decode cX5_get 36 = .ok (.bipush 60, 2) := by decide +kernel
theorem dX5_get_38 : decode cX5_get 38 = .ok (.iload_n 1, 1) := by decide +kernel
theorem dX5_get_39 : decode cX5_get 39 = .ok (.imul, 1) := by decide +kernel
theorem dX5_get_40 : decode cX5_get 40 = .ok (.iload_n 3, 1) := by decide +kernel
theorem dX5_get_41 : decode cX5_get 41 = .ok (.iadd, 1) := by decide +kernel
theorem dX5_get_42 : decode cX5_get 42 = .ok (.iaload, 1) := by decide +kernel
theorem dX5_get_43 : decode cX5_get 43 = .ok (.ireturn, 1) := by decide +kernel
theorem dX5_copy_0 : decode cX5_copy 0 = .ok (.iload_n 1, 1) := by decide +kernel
theorem dX5_copy_1 : decode cX5_copy 1 = .ok (.invokestatic 54, 3) := by decide +kernel
theorem dX5_copy_4 : decode cX5_copy 4 = .ok (.ifCond .eq 10, 3) := by decide +kernel
theorem dX5_copy_7 : decode cX5_copy 7 = .ok (.iload_n 3, 1) := by decide +kernel
theorem dX5_copy_8 : decode cX5_copy 8 = .ok (.invokestatic 54, 3) := by decide +kernel
theorem dX5_copy_11 : decode cX5_copy 11 = .ok (.ifCond .ne 6, 3) := by decide +kernel
theorem dX5_copy_14 : decode cX5_copy 14 = .ok (.bipush (-2), 2) := by decide +kernel
theorem dX5_copy_16 : decode cX5_copy 16 = .ok (.ireturn, 1) := by decide +kernel
theorem dX5_copy_17 : decode cX5_copy 17 = .ok (.aload_n 0, 1) := by decide +kernel
theorem dX5_copy_18 : decode cX5_copy 18 = .ok (.getfield 7, 3) := by decide +kernel
theorem dX5_copy_21 : decode cX5_copy 21 = .ok (.iload_n 1, 1) := by decide +kernel
theorem dX5_copy_22 : decode cX5_copy 22 = .ok (.iaload, 1) := by decide +kernel
theorem dX5_copy_23 : decode cX5_copy 23 = .ok (.ifCond .lt 12, 3) := by decide +kernel
theorem dX5_copy_26 : decode cX5_copy 26 = .ok (.aload_n 0, 1) := by decide +kernel
theorem dX5_copy_27 : decode cX5_copy 27 = .ok (.getfield 7, 3) := by decide +kernel
theorem dX5_copy_30 : decode cX5_copy 30 = .ok (.iload_n 3, 1) := by decide +kernel
theorem dX5_copy_31 : decode cX5_copy 31 = .ok (.iaload, 1) := by decide +kernel
theorem dX5_copy_32 : decode cX5_copy 32 = .ok (.ifCond .ge 9, 3) := by decide +kernel
theorem dX5_copy_35 : decode cX5_copy 35 = .ok (.aload_n 0, 1) := by decide +kernel
theorem dX5_copy_36 : decode cX5_copy 36 = .ok (.iconst 1, 1) := by decide +kernel
theorem dX5_copy_37 : decode cX5_copy 37 = .ok (.invokevirtual 60, 3) := by decide +kernel
theorem dX5_copy_40 : decode cX5_copy 40 = .ok (.ireturn, 1) := by decide +kernel
theorem dX5_copy_41 : decode cX5_copy 41 = .ok (.aload_n 0, 1) := by decide +kernel
theorem dX5_copy_42 : decode cX5_copy 42 = .ok (.getfield 7, 3) := by decide +kernel
theorem dX5_copy_45 : decode cX5_copy 45 = .ok (.iload_n 1, 1) := by decide +kernel
theorem dX5_copy_46 : decode cX5_copy 46 = .ok (.iaload, 1) := by decide +kernel
theorem dX5_copy_47 : decode cX5_copy 47 = .ok (.aload_n 0, 1) := by decide +kernel
theorem dX5_copy_48 : decode cX5_copy 48 = .ok (.getfield 7, 3) := by decide +kernel
theorem dX5_copy_51 : decode cX5_copy 51 = .ok (.iload_n 3, 1) := by decide +kernel
theorem dX5_copy_52 : decode cX5_copy 52 = .ok (.iaload, 1) := by decide +kernel
theorem dX5_copy_53 : decode cX5_copy 53 = .ok (.if_icmp .eq 9, 3) := by decide +kernel
theorem dX5_copy_56 : decode cX5_copy 56 = .ok (.aload_n 0, 1) := by decide +kernel
theorem dX5_copy_57 : decode cX5_copy 57 = .ok (.iconst 4, 1) := by decide +kernel
theorem dX5_copy_58 : decode cX5_copy 58 = .ok (.invokevirtual 60, 3) := by decide +kernel
theorem dX5_copy_61 : decode cX5_copy 61 = .ok (.ireturn, 1) := by decide +kernel
theorem dX5_copy_62 : decode cX5_copy 62 = .ok (.iload_n 2, 1) := by decide +kernel
theorem dX5_copy_63 : decode cX5_copy 63 = .ok (.ifCond .lt 48, 3) := by decide +kernel
theorem dX5_copy_66 : decode cX5_copy 66 = .ok (.iload 4, 2) := by decide +kernel
theorem dX5_copy_68 : decode cX5_copy 68 = .ok (.ifCond .lt 43, 3) := by decide +kernel
theorem dX5_copy_71 : decode cX5_copy 71 = .ok (.iload 5, 2) := by decide +kernel
theorem dX5_copy_73 : decode cX5_copy 73 = .ok (.ifCond .lt 38, 3) := by decide +kernel
theorem dX5_copy_76 : decode cX5_copy 76 = .ok (.iload_n 2, 1) := by decide +kernel
theorem dX5_copy_77 : decode cX5_copy 77 = .ok (.i2l, 1) := by decide +kernel
theorem dX5_copy_78 : decode cX5_copy 78 = .ok (.iload 5, 2) := by decide +kernel
theorem dX5_copy_80 : decode cX5_copy 80 = .ok (.i2l, 1) := by decide +kernel
theorem dX5_copy_81 : decode cX5_copy 81 = .ok (.ladd, 1) := by decide +kernel
theorem dX5_copy_82 : decode cX5_copy 82 = .ok (.aload_n 0, 1) := by decide +kernel
theorem dX5_copy_83 : decode cX5_copy 83 = .ok (.getfield 13, 3) := by decide +kernel
theorem dX5_copy_86 : decode cX5_copy 86 = .ok (.iload_n 1, 1) := by decide +kernel
theorem dX5_copy_87 : decode cX5_copy 87 = .ok (.iaload, 1) := by decide +kernel
theorem dX5_copy_88 : decode cX5_copy 88 = .ok (.i2l, 1) := by decide +kernel
theorem dX5_copy_89 : decode cX5_copy 89 = .ok (.lcmp, 1) := by decide +kernel
theorem dX5_copy_90 : decode cX5_copy 90 = .ok (.ifCond .gt 21, 3) := by decide +kernel
theorem dX5_copy_93 : decode cX5_copy 93 = .ok (.iload 4, 2) := by decide +kernel
theorem dX5_copy_95 : decode cX5_copy 95 = .ok (.i2l, 1) := by decide +kernel
theorem dX5_copy_96 : decode cX5_copy 96 = .ok (.iload 5, 2) := by decide +kernel
theorem dX5_copy_98 : decode cX5_copy 98 = .ok (.i2l, 1) := by decide +kernel
theorem dX5_copy_99 : decode cX5_copy 99 = .ok (.ladd, 1) := by decide +kernel
theorem dX5_copy_100 : decode cX5_copy 100 = .ok (.aload_n 0, 1) := by decide +kernel
theorem dX5_copy_101 : decode cX5_copy 101 = .ok (.getfield 13, 3) := by decide +kernel
theorem dX5_copy_104 : decode cX5_copy 104 = .ok (.iload_n 3, 1) := by decide +kernel
theorem dX5_copy_105 : decode cX5_copy 105 = .ok (.iaload, 1) := by decide +kernel
theorem dX5_copy_106 : decode cX5_copy 106 = .ok (.i2l, 1) := by decide +kernel
theorem dX5_copy_107 : decode cX5_copy 107 = .ok (.lcmp, 1) := by decide +kernel
theorem dX5_copy_108 : decode cX5_copy 108 = .ok (.ifCond .le 9, 3) := by decide +kernel
theorem dX5_copy_111 : decode cX5_copy 111 = .ok (.aload_n 0, 1) := by decide +kernel
theorem dX5_copy_112 : decode cX5_copy 112 = .ok (.iconst 2, 1) := by decide +kernel
theorem dX5_copy_113 : decode cX5_copy 113 = .ok (.invokevirtual 60, 3) := by decide +kernel
theorem dX5_copy_116 : decode cX5_copy 116 = .ok (.ireturn, 1) := by decide +kernel
theorem dX5_copy_117 : decode cX5_copy 117 = .ok (.iconst 0, 1) := by decide +kernel
theorem dX5_copy_118 : decode cX5_copy 118 = .ok (.istore 6, 2) := by decide +kernel
theorem dX5_copy_120 : decode cX5_copy 120 = .ok (.iload 6, 2) := by decide +kernel
theorem dX5_copy_122 : decode cX5_copy 122 = .ok (.iload 5, 2) := by decide +kernel
theorem dX5_copy_124 : decode cX5_copy 124 = .ok (.if_icmp .ge 30, 3) := by decide +kernel
theorem dX5_copy_127 : decode cX5_copy 127 = .ok (.aload_n 0, 1) := by decide +kernel
theorem dX5_copy_128 : decode cX5_copy 128 = .ok (.getfield 19, 3) := by decide +kernel
theorem dX5_copy_131 : decode cX5_copy 131 = .ok (.iload 6, 2) := by decide +kernel
theorem dX5_copy_133 : decode cX5_copy 133 = .ok (.aload_n 0, 1) := by decide +kernel
theorem dX5_copy_134 : decode cX5_copy 134 = .ok (.getfield 16, 3) := by decide +kernel
theorem dX5_copy_137 : decode cX5_copy 137 = .ok (.bipush 60, 2) := by decide +kernel
theorem dX5_copy_139 : decode cX5_copy 139 = .ok (.iload_n 1, 1) := by decide +kernel
theorem dX5_copy_140 : decode cX5_copy 140 = .ok (.imul, 1) := by decide +kernel
theorem dX5_copy_141 : decode cX5_copy 141 = .ok (.iload_n 2, 1) := by decide +kernel
theorem dX5_copy_142 : decode cX5_copy 142 = .ok (.iadd, 1) := by decide +kernel
theorem dX5_copy_143 : decode cX5_copy 143 = .ok (.iload 6, 2) := by decide +kernel
theorem dX5_copy_145 : decode cX5_copy 145 = .ok (.iadd, 1) := by decide +kernel
theorem dX5_copy_146 : decode cX5_copy 146 = .ok (.iaload, 1) := by decide +kernel
theorem dX5_copy_147 : decode cX5_copy 147 = .ok (.iastore, 1) := by decide +kernel
theorem dX5_copy_148 : decode cX5_copy 148 = .ok (.iinc 6 1, 3) := by decide +kernel
theorem dX5_copy_151 : decode cX5_copy 151 = .ok (.goto (-31), 3) := by decide +kernel
theorem dX5_copy_154 : decode cX5_copy 154 = .ok (.iconst 0, 1) := by decide +kernel
theorem dX5_copy_155 : decode cX5_copy 155 = .ok (.istore 6, 2) := by decide +kernel
theorem dX5_copy_157 : decode cX5_copy 157 = .ok (.iload 6, 2) := by decide +kernel
theorem dX5_copy_159 : decode cX5_copy 159 = .ok (.iload 5, 2) := by decide +kernel
theorem dX5_copy_161 : decode cX5_copy 161 = .ok (.if_icmp .ge 31, 3) := by decide +kernel
theorem dX5_copy_164 : decode cX5_copy 164 = .ok (.aload_n 0, 1) := by decide +kernel
theorem dX5_copy_165 : decode cX5_copy 165 = .ok (.getfield 16, 3) := by decide +kernel
theorem dX5_copy_168 : decode cX5_copy 168 = .ok (.bipush 60, 2) := by decide +kernel
theorem dX5_copy_170 : decode cX5_copy 170 = .ok (.iload_n 3, 1) := by decide +kernel
theorem dX5_copy_171 : decode cX5_copy 171 = .ok (.imul, 1) := by decide +kernel
theorem dX5_copy_172 : decode cX5_copy 172 = .ok (.iload 4, 2) := by decide +kernel
theorem dX5_copy_174 : decode cX5_copy 174 = .ok (.iadd, 1) := by decide +kernel
theorem dX5_copy_175 : decode cX5_copy 175 = .ok (.iload 6, 2) := by decide +kernel
theorem dX5_copy_177 : decode cX5_copy 177 = .ok (.iadd, 1) := by decide +kernel
theorem dX5_copy_178 : decode cX5_copy 178 = .ok (.aload_n 0, 1) := by decide +kernel
theorem dX5_copy_179 : decode cX5_copy 179 = .ok (.getfield 19, 3) := by decide +kernel
theorem dX5_copy_182 : decode cX5_copy 182 = .ok (.iload 6, 2) := by decide +kernel
theorem dX5_copy_184 : decode cX5_copy 184 = .ok (.iaload, 1) := by decide +kernel
theorem dX5_copy_185 : decode cX5_copy 185 = .ok (.iastore, 1) := by decide +kernel
theorem dX5_copy_186 : decode cX5_copy 186 = .ok (.iinc 6 1, 3) := by decide +kernel
theorem dX5_copy_189 : decode cX5_copy 189 = .ok (.goto (-32), 3) := by decide +kernel
theorem dX5_copy_192 : decode cX5_copy 192 = .ok (.iconst 1, 1) := by decide +kernel
theorem dX5_copy_193 : decode cX5_copy 193 = .ok (.ireturn, 1) := by decide +kernel
theorem dX5_type_0 : decode cX5_type 0 = .ok (.iload_n 1, 1) := by decide +kernel
theorem dX5_type_1 : decode cX5_type 1 = .ok (.i2l, 1) := by decide +kernel
theorem dX5_type_2 : decode cX5_type 2 = .ok (.lconst 0, 1) := by decide +kernel
theorem dX5_type_3 : decode cX5_type 3 = .ok (.ldc2_w 73, 3) := by decide +kernel
theorem dX5_type_6 : decode cX5_type 6 = .ok (.invokestatic 44, 3) := by decide +kernel
theorem dX5_type_9 : decode cX5_type 9 = .ok (.ifCond .ne 6, 3) := by decide +kernel
theorem dX5_type_12 : decode cX5_type 12 = .ok (.bipush (-2), 2) := by decide +kernel
theorem dX5_type_14 : decode cX5_type 14 = .ok (.ireturn, 1) := by decide +kernel
theorem dX5_type_15 : decode cX5_type 15 = .ok (.aload_n 0, 1) := by decide +kernel
theorem dX5_type_16 : decode cX5_type 16 = .ok (.getfield 75, 3) := by decide +kernel
theorem dX5_type_19 : decode cX5_type 19 = .ok (.bipush 60, 2) := by decide +kernel
theorem dX5_type_21 : decode cX5_type 21 = .ok (.if_icmp .ne 6, 3) := by decide +kernel
theorem dX5_type_24 : decode cX5_type 24 = .ok (.bipush (-4), 2) := by decide +kernel
theorem dX5_type_26 : decode cX5_type 26 = .ok (.ireturn, 1) := by decide +kernel
theorem dX5_type_27 : decode cX5_type 27 = .ok (.aload_n 0, 1) := by decide +kernel
theorem dX5_type_28 : decode cX5_type 28 = .ok (.getfield 22, 3) := by decide +kernel
theorem dX5_type_31 : decode cX5_type 31 = .ok (.aload_n 0, 1) := by decide +kernel
theorem dX5_type_32 : decode cX5_type 32 = .ok (.getfield 75, 3) := by decide +kernel
theorem dX5_type_35 : decode cX5_type 35 = .ok (.iload_n 1, 1) := by decide +kernel
theorem dX5_type_36 : decode cX5_type 36 = .ok (.iastore, 1) := by decide +kernel
theorem dX5_type_37 : decode cX5_type 37 = .ok (.aload_n 0, 1) := by decide +kernel
theorem dX5_type_38 : decode cX5_type 38 = .ok (.dup, 1) := by decide +kernel
theorem dX5_type_39 : decode cX5_type 39 = .ok (.getfield 75, 3) := by decide +kernel
theorem dX5_type_42 : decode cX5_type 42 = .ok (.iconst 1, 1) := by decide +kernel
theorem dX5_type_43 : decode cX5_type 43 = .ok (.iadd, 1) := by decide +kernel
theorem dX5_type_44 : decode cX5_type 44 = .ok (.putfield 75, 3) := by decide +kernel
theorem dX5_type_47 : decode cX5_type 47 = .ok (.aload_n 0, 1) := by decide +kernel
theorem dX5_type_48 : decode cX5_type 48 = .ok (.getfield 75, 3) := by decide +kernel
theorem dX5_type_51 : decode cX5_type 51 = .ok (.ireturn, 1) := by decide +kernel
theorem dX5_wipe_0 : decode cX5_wipe 0 = .ok (.aload_n 0, 1) := by decide +kernel
theorem dX5_wipe_1 : decode cX5_wipe 1 = .ok (.getfield 75, 3) := by decide +kernel
theorem dX5_wipe_4 : decode cX5_wipe 4 = .ok (.istore_n 1, 1) := by decide +kernel
theorem dX5_wipe_5 : decode cX5_wipe 5 = .ok (.aload_n 0, 1) := by decide +kernel
theorem dX5_wipe_6 : decode cX5_wipe 6 = .ok (.iconst 0, 1) := by decide +kernel
theorem dX5_wipe_7 : decode cX5_wipe 7 = .ok (.putfield 75, 3) := by decide +kernel
theorem dX5_wipe_10 : decode cX5_wipe 10 = .ok (.iload_n 1, 1) := by decide +kernel
theorem dX5_wipe_11 : decode cX5_wipe 11 = .ok (.ireturn, 1) := by decide +kernel
theorem dX5_here_0 : decode cX5_here 0 = .ok (.aload_n 0, 1) := by decide +kernel
theorem dX5_here_1 : decode cX5_here 1 = .ok (.getfield 78, 3) := by decide +kernel
theorem dX5_here_4 : decode cX5_here 4 = .ok (.aload_n 0, 1) := by decide +kernel
theorem dX5_here_5 : decode cX5_here 5 = .ok (.getfield 75, 3) := by decide +kernel
theorem dX5_here_8 : decode cX5_here 8 = .ok (.if_icmp .ge 15, 3) := by decide +kernel
theorem dX5_here_11 : decode cX5_here 11 = .ok (.aload_n 0, 1) := by decide +kernel
theorem dX5_here_12 : decode cX5_here 12 = .ok (.getfield 22, 3) := by decide +kernel
theorem dX5_here_15 : decode cX5_here 15 = .ok (.aload_n 0, 1) := by decide +kernel
theorem dX5_here_16 : decode cX5_here 16 = .ok (.getfield 78, 3) := by decide +kernel
theorem dX5_here_19 : decode cX5_here 19 = .ok (.iaload, 1) := by decide +kernel
theorem dX5_here_20 : decode cX5_here 20 = .ok (.goto 4, 3) := by decide +kernel
theorem dX5_here_23 : decode cX5_here 23 = .ok (.iconst (-1), 1) := by decide +kernel
theorem dX5_here_24 : decode cX5_here 24 = .ok (.ireturn, 1) := by decide +kernel
theorem dX5_none_0 : decode cX5_none 0 = .ok (.aload_n 0, 1) := by decide +kernel
theorem dX5_none_1 : decode cX5_none 1 = .ok (.iconst 0, 1) := by decide +kernel
theorem dX5_none_2 : decode cX5_none 2 = .ok (.putfield 81, 3) := by decide +kernel
theorem dX5_none_5 : decode cX5_none 5 = .ok (.aload_n 0, 1) := by decide +kernel
theorem dX5_none_6 : decode cX5_none 6 = .ok (.getfield 78, 3) := by decide +kernel
theorem dX5_none_9 : decode cX5_none 9 = .ok (.ireturn, 1) := by decide +kernel
theorem dX5_readsPart_0 : decode cX5_readsPart 0 = .ok (.aload_n 0, 1) := by decide +kernel
theorem dX5_readsPart_1 : decode cX5_readsPart 1 = .ok (.getfield 81, 3) := by decide +kernel
theorem dX5_readsPart_4 : decode cX5_readsPart 4 = .ok (.bipush 12, 2) := by decide +kernel
theorem dX5_readsPart_6 : decode cX5_readsPart 6 = .ok (.if_icmp .eq 21, 3) := by decide +kernel
theorem dX5_readsPart_9 : decode cX5_readsPart 9 = .ok (.aload_n 0, 1) := by decide +kernel
theorem dX5_readsPart_10 : decode cX5_readsPart 10 = .ok (.invokevirtual 84, 3) := by decide +kernel
theorem dX5_readsPart_13 : decode cX5_readsPart 13 = .ok (.bipush 48, 2) := by decide +kernel
theorem dX5_readsPart_15 : decode cX5_readsPart 15 = .ok (.isub, 1) := by decide +kernel
theorem dX5_readsPart_16 : decode cX5_readsPart 16 = .ok (.i2l, 1) := by decide +kernel
theorem dX5_readsPart_17 : decode cX5_readsPart 17 = .ok (.lconst 0, 1) := by decide +kernel
theorem dX5_readsPart_18 : decode cX5_readsPart 18 = .ok (.ldc2_w 88, 3) := by decide +kernel
theorem dX5_readsPart_21 : decode cX5_readsPart 21 = .ok (.invokestatic 44, 3) := by decide +kernel
theorem dX5_readsPart_24 : decode cX5_readsPart 24 = .ok (.ifCond .ne 5, 3) := by decide +kernel
theorem dX5_readsPart_27 : decode cX5_readsPart 27 = .ok (.iconst 0, 1) := by decide +kernel
theorem dX5_readsPart_28 : decode cX5_readsPart 28 = .ok (.ireturn, 1) := by decide +kernel
theorem dX5_readsPart_29 : decode cX5_readsPart 29 = .ok (.iconst 0, 1) := by decide +kernel
theorem dX5_readsPart_30 : decode cX5_readsPart 30 = .ok (.istore_n 1, 1) := by decide +kernel
theorem dX5_readsPart_31 : decode cX5_readsPart 31 = .ok (.iconst (-1), 1) := by decide +kernel
theorem dX5_readsPart_32 : decode cX5_readsPart 32 = .ok (.istore_n 2, 1) := by decide +kernel
theorem dX5_readsPart_33 : decode cX5_readsPart 33 = .ok (.aload_n 0, 1) := by decide +kernel
theorem dX5_readsPart_34 : decode cX5_readsPart 34 = .ok (.getfield 25, 3) := by decide +kernel
theorem dX5_readsPart_37 : decode cX5_readsPart 37 = .ok (.iconst 3, 1) := by decide +kernel
theorem dX5_readsPart_38 : decode cX5_readsPart 38 = .ok (.aload_n 0, 1) := by decide +kernel
theorem dX5_readsPart_39 : decode cX5_readsPart 39 = .ok (.getfield 81, 3) := by decide +kernel
theorem dX5_readsPart_42 : decode cX5_readsPart 42 = .ok (.imul, 1) := by decide +kernel
theorem dX5_readsPart_43 : decode cX5_readsPart 43 = .ok (.aload_n 0, 1) := by decide +kernel
theorem dX5_readsPart_44 : decode cX5_readsPart 44 = .ok (.invokevirtual 84, 3) := by decide +kernel
theorem dX5_readsPart_47 : decode cX5_readsPart 47 = .ok (.bipush 48, 2) := by decide +kernel
theorem dX5_readsPart_49 : decode cX5_readsPart 49 = .ok (.isub, 1) := by decide +kernel
theorem dX5_readsPart_50 : decode cX5_readsPart 50 = .ok (.iastore, 1) := by decide +kernel
theorem dX5_readsPart_51 : decode cX5_readsPart 51 = .ok (.aload_n 0, 1) := by decide +kernel
theorem dX5_readsPart_52 : decode cX5_readsPart 52 = .ok (.dup, 1) := by decide +kernel
theorem dX5_readsPart_53 : decode cX5_readsPart 53 = .ok (.getfield 78, 3) := by decide +kernel
theorem dX5_readsPart_56 : decode cX5_readsPart 56 = .ok (.iconst 1, 1) := by decide +kernel
theorem dX5_readsPart_57 : decode cX5_readsPart 57 = .ok (.iadd, 1) := by decide +kernel
theorem dX5_readsPart_58 : decode cX5_readsPart 58 = .ok (.putfield 78, 3) := by decide +kernel
theorem dX5_readsPart_61 : decode cX5_readsPart 61 = .ok (.aload_n 0, 1) := by decide +kernel
theorem dX5_readsPart_62 : decode cX5_readsPart 62 = .ok (.invokevirtual 84, 3) := by decide +kernel
theorem dX5_readsPart_65 : decode cX5_readsPart 65 = .ok (.bipush 97, 2) := by decide +kernel
theorem dX5_readsPart_67 : decode cX5_readsPart 67 = .ok (.isub, 1) := by decide +kernel
theorem dX5_readsPart_68 : decode cX5_readsPart 68 = .ok (.i2l, 1) := by decide +kernel
theorem dX5_readsPart_69 : decode cX5_readsPart 69 = .ok (.iload_n 2, 1) := by decide +kernel
theorem dX5_readsPart_70 : decode cX5_readsPart 70 = .ok (.iconst 1, 1) := by decide +kernel
theorem dX5_readsPart_71 : decode cX5_readsPart 71 = .ok (.iadd, 1) := by decide +kernel
theorem dX5_readsPart_72 : decode cX5_readsPart 72 = .ok (.i2l, 1) := by decide +kernel
theorem dX5_readsPart_73 : decode cX5_readsPart 73 = .ok (.aload_n 0, 1) := by decide +kernel
theorem dX5_readsPart_74 : decode cX5_readsPart 74 = .ok (.getfield 81, 3) := by decide +kernel
theorem dX5_readsPart_77 : decode cX5_readsPart 77 = .ok (.iconst 1, 1) := by decide +kernel
theorem dX5_readsPart_78 : decode cX5_readsPart 78 = .ok (.isub, 1) := by decide +kernel
theorem dX5_readsPart_79 : decode cX5_readsPart 79 = .ok (.i2l, 1) := by decide +kernel
theorem dX5_readsPart_80 : decode cX5_readsPart 80 = .ok (.invokestatic 44, 3) := by decide +kernel
theorem dX5_readsPart_83 : decode cX5_readsPart 83 = .ok (.ifCond .eq 38, 3) := by decide +kernel
theorem dX5_readsPart_86 : decode cX5_readsPart 86 = .ok (.iload_n 1, 1) := by decide +kernel
theorem dX5_readsPart_87 : decode cX5_readsPart 87 = .ok (.invokestatic 90, 3) := by decide +kernel
theorem dX5_readsPart_90 : decode cX5_readsPart 90 = .ok (.iconst 3, 1) := by decide +kernel
theorem dX5_readsPart_91 : decode cX5_readsPart 91 = .ok (.if_icmp .ge 30, 3) := by decide +kernel
theorem dX5_readsPart_94 : decode cX5_readsPart 94 = .ok (.aload_n 0, 1) := by decide +kernel
theorem dX5_readsPart_95 : decode cX5_readsPart 95 = .ok (.invokevirtual 84, 3) := by decide +kernel
theorem dX5_readsPart_98 : decode cX5_readsPart 98 = .ok (.bipush 97, 2) := by decide +kernel
theorem dX5_readsPart_100 : decode cX5_readsPart 100 = .ok (.isub, 1) := by decide +kernel
theorem dX5_readsPart_101 : decode cX5_readsPart 101 = .ok (.istore_n 2, 1) := by decide +kernel
theorem dX5_readsPart_102 : decode cX5_readsPart 102 = .ok (.iload_n 1, 1) := by decide +kernel
theorem dX5_readsPart_103 : decode cX5_readsPart 103 = .ok (.iconst 1, 1) := by decide +kernel
theorem dX5_readsPart_104 : decode cX5_readsPart 104 = .ok (.iload_n 2, 1) := by decide +kernel
theorem dX5_readsPart_105 : decode cX5_readsPart 105 = .ok (.ishl, 1) := by decide +kernel
theorem dX5_readsPart_106 : decode cX5_readsPart 106 = .ok (.ior, 1) := by decide +kernel
theorem dX5_readsPart_107 : decode cX5_readsPart 107 = .ok (.istore_n 1, 1) := by decide +kernel
theorem dX5_readsPart_108 : decode cX5_readsPart 108 = .ok (.aload_n 0, 1) := by decide +kernel
theorem dX5_readsPart_109 : decode cX5_readsPart 109 = .ok (.dup, 1) := by decide +kernel
theorem dX5_readsPart_110 : decode cX5_readsPart 110 = .ok (.getfield 78, 3) := by decide +kernel
theorem dX5_readsPart_113 : decode cX5_readsPart 113 = .ok (.iconst 1, 1) := by decide +kernel
theorem dX5_readsPart_114 : decode cX5_readsPart 114 = .ok (.iadd, 1) := by decide +kernel
theorem dX5_readsPart_115 : decode cX5_readsPart 115 = .ok (.putfield 78, 3) := by decide +kernel
theorem dX5_readsPart_118 : decode cX5_readsPart 118 = .ok (.goto (-57), 3) := by decide +kernel
theorem dX5_readsPart_121 : decode cX5_readsPart 121 = .ok (.aload_n 0, 1) := by decide +kernel
theorem dX5_readsPart_122 : decode cX5_readsPart 122 = .ok (.invokevirtual 84, 3) := by decide +kernel
theorem dX5_readsPart_125 : decode cX5_readsPart 125 = .ok (.bipush 33, 2) := by decide +kernel
theorem dX5_readsPart_127 : decode cX5_readsPart 127 = .ok (.if_icmp .ne 7, 3) := by decide +kernel
theorem dX5_readsPart_130 : decode cX5_readsPart 130 = .ok (.iconst 1, 1) := by decide +kernel
theorem dX5_readsPart_131 : decode cX5_readsPart 131 = .ok (.goto 4, 3) := by decide +kernel
theorem dX5_readsPart_134 : decode cX5_readsPart 134 = .ok (.iconst 0, 1) := by decide +kernel
theorem dX5_readsPart_135 : decode cX5_readsPart 135 = .ok (.istore_n 3, 1) := by decide +kernel
theorem dX5_readsPart_136 : decode cX5_readsPart 136 = .ok (.aload_n 0, 1) := by decide +kernel
theorem dX5_readsPart_137 : decode cX5_readsPart 137 = .ok (.dup, 1) := by decide +kernel
theorem dX5_readsPart_138 : decode cX5_readsPart 138 = .ok (.getfield 78, 3) := by decide +kernel
theorem dX5_readsPart_141 : decode cX5_readsPart 141 = .ok (.iload_n 3, 1) := by decide +kernel
theorem dX5_readsPart_142 : decode cX5_readsPart 142 = .ok (.ifCond .eq 7, 3) := by decide +kernel
theorem dX5_readsPart_145 : decode cX5_readsPart 145 = .ok (.iconst 1, 1) := by decide +kernel
theorem dX5_readsPart_146 : decode cX5_readsPart 146 = .ok (.goto 4, 3) := by decide +kernel
theorem dX5_readsPart_149 : decode cX5_readsPart 149 = .ok (.iconst 0, 1) := by decide +kernel
theorem dX5_readsPart_150 : decode cX5_readsPart 150 = .ok (.iadd, 1) := by decide +kernel
theorem dX5_readsPart_151 : decode cX5_readsPart 151 = .ok (.putfield 78, 3) := by decide +kernel
theorem dX5_readsPart_154 : decode cX5_readsPart 154 = .ok (.aload_n 0, 1) := by decide +kernel
theorem dX5_readsPart_155 : decode cX5_readsPart 155 = .ok (.getfield 25, 3) := by decide +kernel
theorem dX5_readsPart_158 : decode cX5_readsPart 158 = .ok (.iconst 3, 1) := by decide +kernel
theorem dX5_readsPart_159 : decode cX5_readsPart 159 = .ok (.aload_n 0, 1) := by decide +kernel
theorem dX5_readsPart_160 : decode cX5_readsPart 160 = .ok (.getfield 81, 3) := by decide +kernel
theorem dX5_readsPart_163 : decode cX5_readsPart 163 = .ok (.imul, 1) := by decide +kernel
theorem dX5_readsPart_164 : decode cX5_readsPart 164 = .ok (.iconst 1, 1) := by decide +kernel
theorem dX5_readsPart_165 : decode cX5_readsPart 165 = .ok (.iadd, 1) := by decide +kernel
theorem dX5_readsPart_166 : decode cX5_readsPart 166 = .ok (.iload_n 1, 1) := by decide +kernel
theorem dX5_readsPart_167 : decode cX5_readsPart 167 = .ok (.iastore, 1) := by decide +kernel
theorem dX5_readsPart_168 : decode cX5_readsPart 168 = .ok (.aload_n 0, 1) := by decide +kernel
theorem dX5_readsPart_169 : decode cX5_readsPart 169 = .ok (.getfield 25, 3) := by decide +kernel
theorem dX5_readsPart_172 : decode cX5_readsPart 172 = .ok (.iconst 3, 1) := by decide +kernel
theorem dX5_readsPart_173 : decode cX5_readsPart 173 = .ok (.aload_n 0, 1) := by decide +kernel
theorem dX5_readsPart_174 : decode cX5_readsPart 174 = .ok (.getfield 81, 3) := by decide +kernel
theorem dX5_readsPart_177 : decode cX5_readsPart 177 = .ok (.imul, 1) := by decide +kernel
theorem dX5_readsPart_178 : decode cX5_readsPart 178 = .ok (.iconst 2, 1) := by decide +kernel
theorem dX5_readsPart_179 : decode cX5_readsPart 179 = .ok (.iadd, 1) := by decide +kernel
theorem dX5_readsPart_180 : decode cX5_readsPart 180 = .ok (.iload_n 3, 1) := by decide +kernel
theorem dX5_readsPart_181 : decode cX5_readsPart 181 = .ok (.ifCond .eq 7, 3) := by decide +kernel
theorem dX5_readsPart_184 : decode cX5_readsPart 184 = .ok (.iconst 1, 1) := by decide +kernel
theorem dX5_readsPart_185 : decode cX5_readsPart 185 = .ok (.goto 4, 3) := by decide +kernel
theorem dX5_readsPart_188 : decode cX5_readsPart 188 = .ok (.iconst 0, 1) := by decide +kernel
theorem dX5_readsPart_189 : decode cX5_readsPart 189 = .ok (.iastore, 1) := by decide +kernel
theorem dX5_readsPart_190 : decode cX5_readsPart 190 = .ok (.aload_n 0, 1) := by decide +kernel
theorem dX5_readsPart_191 : decode cX5_readsPart 191 = .ok (.dup, 1) := by decide +kernel
theorem dX5_readsPart_192 : decode cX5_readsPart 192 = .ok (.getfield 81, 3) := by decide +kernel
theorem dX5_readsPart_195 : decode cX5_readsPart 195 = .ok (.iconst 1, 1) := by decide +kernel
theorem dX5_readsPart_196 : decode cX5_readsPart 196 = .ok (.iadd, 1) := by decide +kernel
theorem dX5_readsPart_197 : decode cX5_readsPart 197 = .ok (.putfield 81, 3) := by decide +kernel
theorem dX5_readsPart_200 : decode cX5_readsPart 200 = .ok (.iconst 1, 1) := by decide +kernel
theorem dX5_readsPart_201 : decode cX5_readsPart 201 = .ok (.ireturn, 1) := by decide +kernel
theorem dX5_reads_0 : decode cX5_reads 0 = .ok (.aload_n 0, 1) := by decide +kernel
theorem dX5_reads_1 : decode cX5_reads 1 = .ok (.iconst 0, 1) := by decide +kernel
theorem dX5_reads_2 : decode cX5_reads 2 = .ok (.putfield 78, 3) := by decide +kernel
theorem dX5_reads_5 : decode cX5_reads 5 = .ok (.aload_n 0, 1) := by decide +kernel
theorem dX5_reads_6 : decode cX5_reads 6 = .ok (.iconst 0, 1) := by decide +kernel
theorem dX5_reads_7 : decode cX5_reads 7 = .ok (.putfield 81, 3) := by decide +kernel
theorem dX5_reads_10 : decode cX5_reads 10 = .ok (.aload_n 0, 1) := by decide +kernel
theorem dX5_reads_11 : decode cX5_reads 11 = .ok (.getfield 75, 3) := by decide +kernel
theorem dX5_reads_14 : decode cX5_reads 14 = .ok (.ifCond .le 7, 3) := by decide +kernel
theorem dX5_reads_17 : decode cX5_reads 17 = .ok (.iconst 1, 1) := by decide +kernel
theorem dX5_reads_18 : decode cX5_reads 18 = .ok (.goto 4, 3) := by decide +kernel
theorem dX5_reads_21 : decode cX5_reads 21 = .ok (.iconst 0, 1) := by decide +kernel
theorem dX5_reads_22 : decode cX5_reads 22 = .ok (.istore_n 1, 1) := by decide +kernel
theorem dX5_reads_23 : decode cX5_reads 23 = .ok (.iload_n 1, 1) := by decide +kernel
theorem dX5_reads_24 : decode cX5_reads 24 = .ok (.ifCond .eq 71, 3) := by decide +kernel
theorem dX5_reads_27 : decode cX5_reads 27 = .ok (.aload_n 0, 1) := by decide +kernel
theorem dX5_reads_28 : decode cX5_reads 28 = .ok (.invokevirtual 93, 3) := by decide +kernel
theorem dX5_reads_31 : decode cX5_reads 31 = .ok (.ifCond .ne 8, 3) := by decide +kernel
theorem dX5_reads_34 : decode cX5_reads 34 = .ok (.aload_n 0, 1) := by decide +kernel
theorem dX5_reads_35 : decode cX5_reads 35 = .ok (.invokevirtual 97, 3) := by decide +kernel
theorem dX5_reads_38 : decode cX5_reads 38 = .ok (.ireturn, 1) := by decide +kernel
theorem dX5_reads_39 : decode cX5_reads 39 = .ok (.aload_n 0, 1) := by decide +kernel
theorem dX5_reads_40 : decode cX5_reads 40 = .ok (.getfield 78, 3) := by decide +kernel
theorem dX5_reads_43 : decode cX5_reads 43 = .ok (.aload_n 0, 1) := by decide +kernel
theorem dX5_reads_44 : decode cX5_reads 44 = .ok (.getfield 75, 3) := by decide +kernel
theorem dX5_reads_47 : decode cX5_reads 47 = .ok (.if_icmp .ge 7, 3) := by decide +kernel
theorem dX5_reads_50 : decode cX5_reads 50 = .ok (.iconst 1, 1) := by decide +kernel
theorem dX5_reads_51 : decode cX5_reads 51 = .ok (.goto 4, 3) := by decide +kernel
theorem dX5_reads_54 : decode cX5_reads 54 = .ok (.iconst 0, 1) := by decide +kernel
theorem dX5_reads_55 : decode cX5_reads 55 = .ok (.istore_n 1, 1) := by decide +kernel
theorem dX5_reads_56 : decode cX5_reads 56 = .ok (.iload_n 1, 1) := by decide +kernel
theorem dX5_reads_57 : decode cX5_reads 57 = .ok (.ifCond .eq 17, 3) := by decide +kernel
theorem dX5_reads_60 : decode cX5_reads 60 = .ok (.aload_n 0, 1) := by decide +kernel
theorem dX5_reads_61 : decode cX5_reads 61 = .ok (.invokevirtual 84, 3) := by decide +kernel
theorem dX5_reads_64 : decode cX5_reads 64 = .ok (.bipush 59, 2) := by decide +kernel
theorem dX5_reads_66 : decode cX5_reads 66 = .ok (.if_icmp .eq 8, 3) := by decide +kernel
theorem dX5_reads_69 : decode cX5_reads 69 = .ok (.aload_n 0, 1) := by decide +kernel
theorem dX5_reads_70 : decode cX5_reads 70 = .ok (.invokevirtual 97, 3) := by decide +kernel
theorem dX5_reads_73 : decode cX5_reads 73 = .ok (.ireturn, 1) := by decide +kernel
theorem dX5_reads_74 : decode cX5_reads 74 = .ok (.aload_n 0, 1) := by decide +kernel
theorem dX5_reads_75 : decode cX5_reads 75 = .ok (.dup, 1) := by decide +kernel
theorem dX5_reads_76 : decode cX5_reads 76 = .ok (.getfield 78, 3) := by decide +kernel
theorem dX5_reads_79 : decode cX5_reads 79 = .ok (.iload_n 1, 1) := by decide +kernel
theorem dX5_reads_80 : decode cX5_reads 80 = .ok (.ifCond .eq 7, 3) := by decide +kernel
theorem dX5_reads_83 : decode cX5_reads 83 = .ok (.iconst 1, 1) := by decide +kernel
theorem dX5_reads_84 : decode cX5_reads 84 = .ok (.goto 4, 3) := by decide +kernel
theorem dX5_reads_87 : decode cX5_reads 87 = .ok (.iconst 0, 1) := by decide +kernel
theorem dX5_reads_88 : decode cX5_reads 88 = .ok (.iadd, 1) := by decide +kernel
theorem dX5_reads_89 : decode cX5_reads 89 = .ok (.putfield 78, 3) := by decide +kernel
theorem dX5_reads_92 : decode cX5_reads 92 = .ok (.goto (-69), 3) := by decide +kernel
theorem dX5_reads_95 : decode cX5_reads 95 = .ok (.iconst (-1), 1) := by decide +kernel
theorem dX5_reads_96 : decode cX5_reads 96 = .ok (.ireturn, 1) := by decide +kernel
theorem dX5_fault_0 : decode cX5_fault 0 = .ok (.aload_n 0, 1) := by decide +kernel
theorem dX5_fault_1 : decode cX5_fault 1 = .ok (.invokevirtual 100, 3) := by decide +kernel
theorem dX5_fault_4 : decode cX5_fault 4 = .ok (.ireturn, 1) := by decide +kernel
theorem dX5_isDeed_0 : decode cX5_isDeed 0 = .ok (.aload_n 0, 1) := by decide +kernel
theorem dX5_isDeed_1 : decode cX5_isDeed 1 = .ok (.invokevirtual 100, 3) := by decide +kernel
theorem dX5_isDeed_4 : decode cX5_isDeed 4 = .ok (.pop, 1) := by decide +kernel
theorem dX5_isDeed_5 : decode cX5_isDeed 5 = .ok (.iload_n 1, 1) := by decide +kernel
theorem dX5_isDeed_6 : decode cX5_isDeed 6 = .ok (.i2l, 1) := by decide +kernel
theorem dX5_isDeed_7 : decode cX5_isDeed 7 = .ok (.lconst 0, 1) := by decide +kernel
theorem dX5_isDeed_8 : decode cX5_isDeed 8 = .ok (.aload_n 0, 1) := by decide +kernel
theorem dX5_isDeed_9 : decode cX5_isDeed 9 = .ok (.getfield 81, 3) := by decide +kernel
theorem dX5_isDeed_12 : decode cX5_isDeed 12 = .ok (.iconst 1, 1) := by decide +kernel
theorem dX5_isDeed_13 : decode cX5_isDeed 13 = .ok (.isub, 1) := by decide +kernel
theorem dX5_isDeed_14 : decode cX5_isDeed 14 = .ok (.i2l, 1) := by decide +kernel
theorem dX5_isDeed_15 : decode cX5_isDeed 15 = .ok (.invokestatic 44, 3) := by decide +kernel
theorem dX5_isDeed_18 : decode cX5_isDeed 18 = .ok (.ireturn, 1) := by decide +kernel
theorem dX5_deed_0 : decode cX5_deed 0 = .ok (.aload_n 0, 1) := by decide +kernel
theorem dX5_deed_1 : decode cX5_deed 1 = .ok (.iload_n 1, 1) := by decide +kernel
theorem dX5_deed_2 : decode cX5_deed 2 = .ok (.invokevirtual 103, 3) := by decide +kernel
theorem dX5_deed_5 : decode cX5_deed 5 = .ok (.ifCond .eq 28, 3) := by decide +kernel
theorem dX5_deed_8 : decode cX5_deed 8 = .ok (.iload_n 2, 1) := by decide +kernel
theorem dX5_deed_9 : decode cX5_deed 9 = .ok (.i2l, 1) := by decide +kernel
theorem dX5_deed_10 : decode cX5_deed 10 = .ok (.lconst 0, 1) := by decide +kernel
theorem dX5_deed_11 : decode cX5_deed 11 = .ok (.ldc2_w 58, 3) := by decide +kernel
theorem dX5_deed_14 : decode cX5_deed 14 = .ok (.invokestatic 44, 3) := by decide +kernel
theorem dX5_deed_17 : decode cX5_deed 17 = .ok (.ifCond .eq 16, 3) := by decide +kernel
theorem dX5_deed_20 : decode cX5_deed 20 = .ok (.aload_n 0, 1) := by decide +kernel
theorem dX5_deed_21 : decode cX5_deed 21 = .ok (.getfield 25, 3) := by decide +kernel
theorem dX5_deed_24 : decode cX5_deed 24 = .ok (.iconst 3, 1) := by decide +kernel
theorem dX5_deed_25 : decode cX5_deed 25 = .ok (.iload_n 1, 1) := by decide +kernel
theorem dX5_deed_26 : decode cX5_deed 26 = .ok (.imul, 1) := by decide +kernel
theorem dX5_deed_27 : decode cX5_deed 27 = .ok (.iload_n 2, 1) := by decide +kernel
theorem dX5_deed_28 : decode cX5_deed 28 = .ok (.iadd, 1) := by decide +kernel
theorem dX5_deed_29 : decode cX5_deed 29 = .ok (.iaload, 1) := by decide +kernel
theorem dX5_deed_30 : decode cX5_deed 30 = .ok (.goto 5, 3) := by decide +kernel
theorem dX5_deed_33 : decode cX5_deed 33 = .ok (.bipush (-2), 2) := by decide +kernel
theorem dX5_deed_35 : decode cX5_deed 35 = .ok (.ireturn, 1) := by decide +kernel
theorem dX5_undoes_0 : decode cX5_undoes 0 = .ok (.iload_n 1, 1) := by decide +kernel
theorem dX5_undoes_1 : decode cX5_undoes 1 = .ok (.i2l, 1) := by decide +kernel
theorem dX5_undoes_2 : decode cX5_undoes 2 = .ok (.lconst 0, 1) := by decide +kernel
theorem dX5_undoes_3 : decode cX5_undoes 3 = .ok (.ldc2_w 88, 3) := by decide +kernel
theorem dX5_undoes_6 : decode cX5_undoes 6 = .ok (.invokestatic 44, 3) := by decide +kernel
theorem dX5_undoes_9 : decode cX5_undoes 9 = .ok (.ifCond .eq 15, 3) := by decide +kernel
theorem dX5_undoes_12 : decode cX5_undoes 12 = .ok (.iload_n 2, 1) := by decide +kernel
theorem dX5_undoes_13 : decode cX5_undoes 13 = .ok (.i2l, 1) := by decide +kernel
theorem dX5_undoes_14 : decode cX5_undoes 14 = .ok (.lconst 0, 1) := by decide +kernel
theorem dX5_undoes_15 : decode cX5_undoes 15 = .ok (.ldc2_w 106, 3) := by decide +kernel
theorem dX5_undoes_18 : decode cX5_undoes 18 = .ok (.invokestatic 44, 3) := by decide +kernel
theorem dX5_undoes_21 : decode cX5_undoes 21 = .ok (.ifCond .ne 6, 3) := by decide +kernel
theorem dX5_undoes_24 : decode cX5_undoes 24 = .ok (.bipush (-2), 2) := by decide +kernel
theorem dX5_undoes_26 : decode cX5_undoes 26 = .ok (.ireturn, 1) := by decide +kernel
theorem dX5_undoes_27 : decode cX5_undoes 27 = .ok (.aload_n 0, 1) := by decide +kernel
theorem dX5_undoes_28 : decode cX5_undoes 28 = .ok (.getfield 108, 3) := by decide +kernel
theorem dX5_undoes_31 : decode cX5_undoes 31 = .ok (.bipush 12, 2) := by decide +kernel
theorem dX5_undoes_33 : decode cX5_undoes 33 = .ok (.if_icmp .ne 6, 3) := by decide +kernel
theorem dX5_undoes_36 : decode cX5_undoes 36 = .ok (.bipush (-4), 2) := by decide +kernel
theorem dX5_undoes_38 : decode cX5_undoes 38 = .ok (.ireturn, 1) := by decide +kernel
theorem dX5_undoes_39 : decode cX5_undoes 39 = .ok (.aload_n 0, 1) := by decide +kernel
theorem dX5_undoes_40 : decode cX5_undoes 40 = .ok (.aload_n 0, 1) := by decide +kernel
theorem dX5_undoes_41 : decode cX5_undoes 41 = .ok (.getfield 108, 3) := by decide +kernel
theorem dX5_undoes_44 : decode cX5_undoes 44 = .ok (.iload_n 1, 1) := by decide +kernel
theorem dX5_undoes_45 : decode cX5_undoes 45 = .ok (.iload_n 2, 1) := by decide +kernel
theorem dX5_undoes_46 : decode cX5_undoes 46 = .ok (.invokevirtual 111, 3) := by decide +kernel
theorem dX5_undoes_49 : decode cX5_undoes 49 = .ok (.aload_n 0, 1) := by decide +kernel
theorem dX5_undoes_50 : decode cX5_undoes 50 = .ok (.dup, 1) := by decide +kernel
theorem dX5_undoes_51 : decode cX5_undoes 51 = .ok (.getfield 108, 3) := by decide +kernel
theorem dX5_undoes_54 : decode cX5_undoes 54 = .ok (.iconst 1, 1) := by decide +kernel
theorem dX5_undoes_55 : decode cX5_undoes 55 = .ok (.iadd, 1) := by decide +kernel
theorem dX5_undoes_56 : decode cX5_undoes 56 = .ok (.putfield 108, 3) := by decide +kernel
theorem dX5_undoes_59 : decode cX5_undoes 59 = .ok (.aload_n 0, 1) := by decide +kernel
theorem dX5_undoes_60 : decode cX5_undoes 60 = .ok (.getfield 108, 3) := by decide +kernel
theorem dX5_undoes_63 : decode cX5_undoes 63 = .ok (.ireturn, 1) := by decide +kernel
theorem dX5_tells_0 : decode cX5_tells 0 = .ok (.aload_n 0, 1) := by decide +kernel
theorem dX5_tells_1 : decode cX5_tells 1 = .ok (.getfield 28, 3) := by decide +kernel
theorem dX5_tells_4 : decode cX5_tells 4 = .ok (.iconst 2, 1) := by decide +kernel
theorem dX5_tells_5 : decode cX5_tells 5 = .ok (.iload_n 1, 1) := by decide +kernel
theorem dX5_tells_6 : decode cX5_tells 6 = .ok (.imul, 1) := by decide +kernel
theorem dX5_tells_7 : decode cX5_tells 7 = .ok (.iload_n 2, 1) := by decide +kernel
theorem dX5_tells_8 : decode cX5_tells 8 = .ok (.iastore, 1) := by decide +kernel
theorem dX5_tells_9 : decode cX5_tells 9 = .ok (.aload_n 0, 1) := by decide +kernel
theorem dX5_tells_10 : decode cX5_tells 10 = .ok (.getfield 28, 3) := by decide +kernel
theorem dX5_tells_13 : decode cX5_tells 13 = .ok (.iconst 2, 1) := by decide +kernel
theorem dX5_tells_14 : decode cX5_tells 14 = .ok (.iload_n 1, 1) := by decide +kernel
theorem dX5_tells_15 : decode cX5_tells 15 = .ok (.imul, 1) := by decide +kernel
theorem dX5_tells_16 : decode cX5_tells 16 = .ok (.iconst 1, 1) := by decide +kernel
theorem dX5_tells_17 : decode cX5_tells 17 = .ok (.iadd, 1) := by decide +kernel
theorem dX5_tells_18 : decode cX5_tells 18 = .ok (.iload_n 3, 1) := by decide +kernel
theorem dX5_tells_19 : decode cX5_tells 19 = .ok (.iastore, 1) := by decide +kernel
theorem dX5_tells_20 : decode cX5_tells 20 = .ok (.return_, 1) := by decide +kernel
theorem dX5_read_0 : decode cX5_read 0 = .ok (.iload_n 1, 1) := by decide +kernel
theorem dX5_read_1 : decode cX5_read 1 = .ok (.invokestatic 54, 3) := by decide +kernel
theorem dX5_read_4 : decode cX5_read 4 = .ok (.ifCond .ne 6, 3) := by decide +kernel
theorem dX5_read_7 : decode cX5_read 7 = .ok (.bipush (-2), 2) := by decide +kernel
theorem dX5_read_9 : decode cX5_read 9 = .ok (.ireturn, 1) := by decide +kernel
theorem dX5_read_10 : decode cX5_read 10 = .ok (.aload_n 0, 1) := by decide +kernel
theorem dX5_read_11 : decode cX5_read 11 = .ok (.getfield 7, 3) := by decide +kernel
theorem dX5_read_14 : decode cX5_read 14 = .ok (.iload_n 1, 1) := by decide +kernel
theorem dX5_read_15 : decode cX5_read 15 = .ok (.iaload, 1) := by decide +kernel
theorem dX5_read_16 : decode cX5_read 16 = .ok (.ifCond .ge 9, 3) := by decide +kernel
theorem dX5_read_19 : decode cX5_read 19 = .ok (.aload_n 0, 1) := by decide +kernel
theorem dX5_read_20 : decode cX5_read 20 = .ok (.iconst 1, 1) := by decide +kernel
theorem dX5_read_21 : decode cX5_read 21 = .ok (.invokevirtual 60, 3) := by decide +kernel
theorem dX5_read_24 : decode cX5_read 24 = .ok (.ireturn, 1) := by decide +kernel
theorem dX5_read_25 : decode cX5_read 25 = .ok (.iconst 0, 1) := by decide +kernel
theorem dX5_read_26 : decode cX5_read 26 = .ok (.istore_n 2, 1) := by decide +kernel
theorem dX5_read_27 : decode cX5_read 27 = .ok (.iconst 1, 1) := by decide +kernel
theorem dX5_read_28 : decode cX5_read 28 = .ok (.istore_n 3, 1) := by decide +kernel
theorem dX5_read_29 : decode cX5_read 29 = .ok (.iload_n 3, 1) := by decide +kernel
theorem dX5_read_30 : decode cX5_read 30 = .ok (.ifCond .eq 73, 3) := by decide +kernel
theorem dX5_read_33 : decode cX5_read 33 = .ok (.iconst 2, 1) := by decide +kernel
theorem dX5_read_34 : decode cX5_read 34 = .ok (.iload_n 2, 1) := by decide +kernel
theorem dX5_read_35 : decode cX5_read 35 = .ok (.imul, 1) := by decide +kernel
theorem dX5_read_36 : decode cX5_read 36 = .ok (.iconst 2, 1) := by decide +kernel
theorem dX5_read_37 : decode cX5_read 37 = .ok (.iadd, 1) := by decide +kernel
theorem dX5_read_38 : decode cX5_read 38 = .ok (.aload_n 0, 1) := by decide +kernel
theorem dX5_read_39 : decode cX5_read 39 = .ok (.getfield 13, 3) := by decide +kernel
theorem dX5_read_42 : decode cX5_read 42 = .ok (.iload_n 1, 1) := by decide +kernel
theorem dX5_read_43 : decode cX5_read 43 = .ok (.iaload, 1) := by decide +kernel
theorem dX5_read_44 : decode cX5_read 44 = .ok (.if_icmp .gt 59, 3) := by decide +kernel
theorem dX5_read_47 : decode cX5_read 47 = .ok (.aload_n 0, 1) := by decide +kernel
theorem dX5_read_48 : decode cX5_read 48 = .ok (.aload_n 0, 1) := by decide +kernel
theorem dX5_read_49 : decode cX5_read 49 = .ok (.getfield 16, 3) := by decide +kernel
theorem dX5_read_52 : decode cX5_read 52 = .ok (.bipush 60, 2) := by decide +kernel
theorem dX5_read_54 : decode cX5_read 54 = .ok (.iload_n 1, 1) := by decide +kernel
theorem dX5_read_55 : decode cX5_read 55 = .ok (.imul, 1) := by decide +kernel
theorem dX5_read_56 : decode cX5_read 56 = .ok (.iconst 2, 1) := by decide +kernel
theorem dX5_read_57 : decode cX5_read 57 = .ok (.iload_n 2, 1) := by decide +kernel
theorem dX5_read_58 : decode cX5_read 58 = .ok (.imul, 1) := by decide +kernel
theorem dX5_read_59 : decode cX5_read 59 = .ok (.iadd, 1) := by decide +kernel
theorem dX5_read_60 : decode cX5_read 60 = .ok (.iaload, 1) := by decide +kernel
theorem dX5_read_61 : decode cX5_read 61 = .ok (.aload_n 0, 1) := by decide +kernel
theorem dX5_read_62 : decode cX5_read 62 = .ok (.getfield 16, 3) := by decide +kernel
theorem dX5_read_65 : decode cX5_read 65 = .ok (.bipush 60, 2) := by decide +kernel
theorem dX5_read_67 : decode cX5_read 67 = .ok (.iload_n 1, 1) := by decide +kernel
theorem dX5_read_68 : decode cX5_read 68 = .ok (.imul, 1) := by decide +kernel
theorem dX5_read_69 : decode cX5_read 69 = .ok (.iconst 2, 1) := by decide +kernel
theorem dX5_read_70 : decode cX5_read 70 = .ok (.iload_n 2, 1) := by decide +kernel
theorem dX5_read_71 : decode cX5_read 71 = .ok (.imul, 1) := by decide +kernel
theorem dX5_read_72 : decode cX5_read 72 = .ok (.iadd, 1) := by decide +kernel
theorem dX5_read_73 : decode cX5_read 73 = .ok (.iconst 1, 1) := by decide +kernel
theorem dX5_read_74 : decode cX5_read 74 = .ok (.iadd, 1) := by decide +kernel
theorem dX5_read_75 : decode cX5_read 75 = .ok (.iaload, 1) := by decide +kernel
theorem dX5_read_76 : decode cX5_read 76 = .ok (.invokevirtual 115, 3) := by decide +kernel
theorem dX5_read_79 : decode cX5_read 79 = .ok (.ifCond .lt 7, 3) := by decide +kernel
theorem dX5_read_82 : decode cX5_read 82 = .ok (.iconst 1, 1) := by decide +kernel
theorem dX5_read_83 : decode cX5_read 83 = .ok (.goto 4, 3) := by decide +kernel
theorem dX5_read_86 : decode cX5_read 86 = .ok (.iconst 0, 1) := by decide +kernel
theorem dX5_read_87 : decode cX5_read 87 = .ok (.istore_n 3, 1) := by decide +kernel
theorem dX5_read_88 : decode cX5_read 88 = .ok (.iload_n 2, 1) := by decide +kernel
theorem dX5_read_89 : decode cX5_read 89 = .ok (.iload_n 3, 1) := by decide +kernel
theorem dX5_read_90 : decode cX5_read 90 = .ok (.ifCond .eq 7, 3) := by decide +kernel
theorem dX5_read_93 : decode cX5_read 93 = .ok (.iconst 1, 1) := by decide +kernel
theorem dX5_read_94 : decode cX5_read 94 = .ok (.goto 4, 3) := by decide +kernel
theorem dX5_read_97 : decode cX5_read 97 = .ok (.iconst 0, 1) := by decide +kernel
theorem dX5_read_98 : decode cX5_read 98 = .ok (.iadd, 1) := by decide +kernel
theorem dX5_read_99 : decode cX5_read 99 = .ok (.istore_n 2, 1) := by decide +kernel
theorem dX5_read_100 : decode cX5_read 100 = .ok (.goto (-71), 3) := by decide +kernel
theorem dX5_read_103 : decode cX5_read 103 = .ok (.iload_n 2, 1) := by decide +kernel
theorem dX5_read_104 : decode cX5_read 104 = .ok (.ireturn, 1) := by decide +kernel
theorem dX5_undo_0 : decode cX5_undo 0 = .ok (.aload_n 0, 1) := by decide +kernel
theorem dX5_undo_1 : decode cX5_undo 1 = .ok (.getfield 108, 3) := by decide +kernel
theorem dX5_undo_4 : decode cX5_undo 4 = .ok (.ifCond .ne 6, 3) := by decide +kernel
theorem dX5_undo_7 : decode cX5_undo 7 = .ok (.bipush (-3), 2) := by decide +kernel
theorem dX5_undo_9 : decode cX5_undo 9 = .ok (.ireturn, 1) := by decide +kernel
theorem dX5_undo_10 : decode cX5_undo 10 = .ok (.aload_n 0, 1) := by decide +kernel
theorem dX5_undo_11 : decode cX5_undo 11 = .ok (.dup, 1) := by decide +kernel
theorem dX5_undo_12 : decode cX5_undo 12 = .ok (.getfield 108, 3) := by decide +kernel
theorem dX5_undo_15 : decode cX5_undo 15 = .ok (.iconst 1, 1) := by decide +kernel
theorem dX5_undo_16 : decode cX5_undo 16 = .ok (.isub, 1) := by decide +kernel
theorem dX5_undo_17 : decode cX5_undo 17 = .ok (.putfield 108, 3) := by decide +kernel
theorem dX5_undo_20 : decode cX5_undo 20 = .ok (.aload_n 0, 1) := by decide +kernel
theorem dX5_undo_21 : decode cX5_undo 21 = .ok (.getfield 108, 3) := by decide +kernel
theorem dX5_undo_24 : decode cX5_undo 24 = .ok (.ireturn, 1) := by decide +kernel
theorem dX5_worth_0 : decode cX5_worth 0 = .ok (.iload_n 1, 1) := by decide +kernel
theorem dX5_worth_1 : decode cX5_worth 1 = .ok (.i2l, 1) := by decide +kernel
theorem dX5_worth_2 : decode cX5_worth 2 = .ok (.lconst 0, 1) := by decide +kernel
theorem dX5_worth_3 : decode cX5_worth 3 = .ok (.ldc2_w 88, 3) := by decide +kernel
theorem dX5_worth_6 : decode cX5_worth 6 = .ok (.invokestatic 44, 3) := by decide +kernel
theorem dX5_worth_9 : decode cX5_worth 9 = .ok (.ifCond .eq 29, 3) := by decide +kernel
theorem dX5_worth_12 : decode cX5_worth 12 = .ok (.iload_n 2, 1) := by decide +kernel
theorem dX5_worth_13 : decode cX5_worth 13 = .ok (.i2l, 1) := by decide +kernel
theorem dX5_worth_14 : decode cX5_worth 14 = .ok (.lconst 0, 1) := by decide +kernel
theorem dX5_worth_15 : decode cX5_worth 15 = .ok (.ldc2_w 118, 3) := by decide +kernel
theorem dX5_worth_18 : decode cX5_worth 18 = .ok (.invokestatic 44, 3) := by decide +kernel
theorem dX5_worth_21 : decode cX5_worth 21 = .ok (.ifCond .eq 17, 3) := by decide +kernel
theorem dX5_worth_24 : decode cX5_worth 24 = .ok (.iload_n 3, 1) := by decide +kernel
theorem dX5_worth_25 : decode cX5_worth 25 = .ok (.i2l, 1) := by decide +kernel
theorem dX5_worth_26 : decode cX5_worth 26 = .ok (.ldc2_w 120, 3) := by decide +kernel
theorem dX5_worth_29 : decode cX5_worth 29 = .ok (.ldc2_w 122, 3) := by decide +kernel
theorem dX5_worth_32 : decode cX5_worth 32 = .ok (.invokestatic 44, 3) := by decide +kernel
theorem dX5_worth_35 : decode cX5_worth 35 = .ok (.ifCond .ne 7, 3) := by decide +kernel
theorem dX5_worth_38 : decode cX5_worth 38 = .ok (.sipush (-1002), 3) := by decide +kernel
theorem dX5_worth_41 : decode cX5_worth 41 = .ok (.ireturn, 1) := by decide +kernel
theorem dX5_worth_42 : decode cX5_worth 42 = .ok (.aload_n 0, 1) := by decide +kernel
theorem dX5_worth_43 : decode cX5_worth 43 = .ok (.getfield 31, 3) := by decide +kernel
theorem dX5_worth_46 : decode cX5_worth 46 = .ok (.bipush 12, 2) := by decide +kernel
theorem dX5_worth_48 : decode cX5_worth 48 = .ok (.iload_n 1, 1) := by decide +kernel
theorem dX5_worth_49 : decode cX5_worth 49 = .ok (.imul, 1) := by decide +kernel
theorem dX5_worth_50 : decode cX5_worth 50 = .ok (.iload_n 2, 1) := by decide +kernel
theorem dX5_worth_51 : decode cX5_worth 51 = .ok (.iadd, 1) := by decide +kernel
theorem dX5_worth_52 : decode cX5_worth 52 = .ok (.iaload, 1) := by decide +kernel
theorem dX5_worth_53 : decode cX5_worth 53 = .ok (.istore 4, 2) := by decide +kernel
theorem dX5_worth_55 : decode cX5_worth 55 = .ok (.aload_n 0, 1) := by decide +kernel
theorem dX5_worth_56 : decode cX5_worth 56 = .ok (.getfield 31, 3) := by decide +kernel
theorem dX5_worth_59 : decode cX5_worth 59 = .ok (.bipush 12, 2) := by decide +kernel
theorem dX5_worth_61 : decode cX5_worth 61 = .ok (.iload_n 1, 1) := by decide +kernel
theorem dX5_worth_62 : decode cX5_worth 62 = .ok (.imul, 1) := by decide +kernel
theorem dX5_worth_63 : decode cX5_worth 63 = .ok (.iload_n 2, 1) := by decide +kernel
theorem dX5_worth_64 : decode cX5_worth 64 = .ok (.iadd, 1) := by decide +kernel
theorem dX5_worth_65 : decode cX5_worth 65 = .ok (.iload_n 3, 1) := by decide +kernel
theorem dX5_worth_66 : decode cX5_worth 66 = .ok (.iastore, 1) := by decide +kernel
theorem dX5_worth_67 : decode cX5_worth 67 = .ok (.iload 4, 2) := by decide +kernel
theorem dX5_worth_69 : decode cX5_worth 69 = .ok (.ireturn, 1) := by decide +kernel
theorem dX5_isLawful_0 : decode cX5_isLawful 0 = .ok (.aload_n 0, 1) := by decide +kernel
theorem dX5_isLawful_1 : decode cX5_isLawful 1 = .ok (.getfield 28, 3) := by decide +kernel
theorem dX5_isLawful_4 : decode cX5_isLawful 4 = .ok (.iconst 2, 1) := by decide +kernel
theorem dX5_isLawful_5 : decode cX5_isLawful 5 = .ok (.iload_n 1, 1) := by decide +kernel
theorem dX5_isLawful_6 : decode cX5_isLawful 6 = .ok (.imul, 1) := by decide +kernel
theorem dX5_isLawful_7 : decode cX5_isLawful 7 = .ok (.iaload, 1) := by decide +kernel
theorem dX5_isLawful_8 : decode cX5_isLawful 8 = .ok (.istore_n 2, 1) := by decide +kernel
theorem dX5_isLawful_9 : decode cX5_isLawful 9 = .ok (.aload_n 0, 1) := by decide +kernel
theorem dX5_isLawful_10 : decode cX5_isLawful 10 = .ok (.getfield 28, 3) := by decide +kernel
theorem dX5_isLawful_13 : decode cX5_isLawful 13 = .ok (.iconst 2, 1) := by decide +kernel
theorem dX5_isLawful_14 : decode cX5_isLawful 14 = .ok (.iload_n 1, 1) := by decide +kernel
theorem dX5_isLawful_15 : decode cX5_isLawful 15 = .ok (.imul, 1) := by decide +kernel
theorem dX5_isLawful_16 : decode cX5_isLawful 16 = .ok (.iconst 1, 1) := by decide +kernel
theorem dX5_isLawful_17 : decode cX5_isLawful 17 = .ok (.iadd, 1) := by decide +kernel
theorem dX5_isLawful_18 : decode cX5_isLawful 18 = .ok (.iaload, 1) := by decide +kernel
theorem dX5_isLawful_19 : decode cX5_isLawful 19 = .ok (.istore_n 3, 1) := by decide +kernel
theorem dX5_isLawful_20 : decode cX5_isLawful 20 = .ok (.aload_n 0, 1) := by decide +kernel
theorem dX5_isLawful_21 : decode cX5_isLawful 21 = .ok (.getfield 124, 3) := by decide +kernel
theorem dX5_isLawful_24 : decode cX5_isLawful 24 = .ok (.iload_n 2, 1) := by decide +kernel
theorem dX5_isLawful_25 : decode cX5_isLawful 25 = .ok (.invokestatic 127, 3) := by decide +kernel
theorem dX5_isLawful_28 : decode cX5_isLawful 28 = .ok (.ifCond .eq 5, 3) := by decide +kernel
theorem dX5_isLawful_31 : decode cX5_isLawful 31 = .ok (.iconst 0, 1) := by decide +kernel
theorem dX5_isLawful_32 : decode cX5_isLawful 32 = .ok (.ireturn, 1) := by decide +kernel
theorem dX5_isLawful_33 : decode cX5_isLawful 33 = .ok (.iload_n 3, 1) := by decide +kernel
theorem dX5_isLawful_34 : decode cX5_isLawful 34 = .ok (.bipush 12, 2) := by decide +kernel
theorem dX5_isLawful_36 : decode cX5_isLawful 36 = .ok (.if_icmp .ge 29, 3) := by decide +kernel
theorem dX5_isLawful_39 : decode cX5_isLawful 39 = .ok (.iload_n 3, 1) := by decide +kernel
theorem dX5_isLawful_40 : decode cX5_isLawful 40 = .ok (.aload_n 0, 1) := by decide +kernel
theorem dX5_isLawful_41 : decode cX5_isLawful 41 = .ok (.getfield 81, 3) := by decide +kernel
theorem dX5_isLawful_44 : decode cX5_isLawful 44 = .ok (.if_icmp .ge 19, 3) := by decide +kernel
theorem dX5_isLawful_47 : decode cX5_isLawful 47 = .ok (.aload_n 0, 1) := by decide +kernel
theorem dX5_isLawful_48 : decode cX5_isLawful 48 = .ok (.getfield 25, 3) := by decide +kernel
theorem dX5_isLawful_51 : decode cX5_isLawful 51 = .ok (.iconst 3, 1) := by decide +kernel
theorem dX5_isLawful_52 : decode cX5_isLawful 52 = .ok (.iload_n 3, 1) := by decide +kernel
theorem dX5_isLawful_53 : decode cX5_isLawful 53 = .ok (.imul, 1) := by decide +kernel
theorem dX5_isLawful_54 : decode cX5_isLawful 54 = .ok (.iaload, 1) := by decide +kernel
theorem dX5_isLawful_55 : decode cX5_isLawful 55 = .ok (.iload_n 2, 1) := by decide +kernel
theorem dX5_isLawful_56 : decode cX5_isLawful 56 = .ok (.if_icmp .eq 7, 3) := by decide +kernel
theorem dX5_isLawful_59 : decode cX5_isLawful 59 = .ok (.iconst 1, 1) := by decide +kernel
theorem dX5_isLawful_60 : decode cX5_isLawful 60 = .ok (.goto 4, 3) := by decide +kernel
theorem dX5_isLawful_63 : decode cX5_isLawful 63 = .ok (.iconst 0, 1) := by decide +kernel
theorem dX5_isLawful_64 : decode cX5_isLawful 64 = .ok (.ireturn, 1) := by decide +kernel
theorem dX5_isLawful_65 : decode cX5_isLawful 65 = .ok (.iload_n 3, 1) := by decide +kernel
theorem dX5_isLawful_66 : decode cX5_isLawful 66 = .ok (.bipush 12, 2) := by decide +kernel
theorem dX5_isLawful_68 : decode cX5_isLawful 68 = .ok (.isub, 1) := by decide +kernel
theorem dX5_isLawful_69 : decode cX5_isLawful 69 = .ok (.istore 4, 2) := by decide +kernel
theorem dX5_isLawful_71 : decode cX5_isLawful 71 = .ok (.iload 4, 2) := by decide +kernel
theorem dX5_isLawful_73 : decode cX5_isLawful 73 = .ok (.iload_n 1, 1) := by decide +kernel
theorem dX5_isLawful_74 : decode cX5_isLawful 74 = .ok (.if_icmp .ge 30, 3) := by decide +kernel
theorem dX5_isLawful_77 : decode cX5_isLawful 77 = .ok (.aload_n 0, 1) := by decide +kernel
theorem dX5_isLawful_78 : decode cX5_isLawful 78 = .ok (.getfield 34, 3) := by decide +kernel
theorem dX5_isLawful_81 : decode cX5_isLawful 81 = .ok (.iload 4, 2) := by decide +kernel
theorem dX5_isLawful_83 : decode cX5_isLawful 83 = .ok (.baload, 1) := by decide +kernel
theorem dX5_isLawful_84 : decode cX5_isLawful 84 = .ok (.ifCond .eq 20, 3) := by decide +kernel
theorem dX5_isLawful_87 : decode cX5_isLawful 87 = .ok (.aload_n 0, 1) := by decide +kernel
theorem dX5_isLawful_88 : decode cX5_isLawful 88 = .ok (.getfield 28, 3) := by decide +kernel
theorem dX5_isLawful_91 : decode cX5_isLawful 91 = .ok (.iconst 2, 1) := by decide +kernel
theorem dX5_isLawful_92 : decode cX5_isLawful 92 = .ok (.iload 4, 2) := by decide +kernel
theorem dX5_isLawful_94 : decode cX5_isLawful 94 = .ok (.imul, 1) := by decide +kernel
theorem dX5_isLawful_95 : decode cX5_isLawful 95 = .ok (.iaload, 1) := by decide +kernel
theorem dX5_isLawful_96 : decode cX5_isLawful 96 = .ok (.iload_n 2, 1) := by decide +kernel
theorem dX5_isLawful_97 : decode cX5_isLawful 97 = .ok (.if_icmp .eq 7, 3) := by decide +kernel
theorem dX5_isLawful_100 : decode cX5_isLawful 100 = .ok (.iconst 1, 1) := by decide +kernel
theorem dX5_isLawful_101 : decode cX5_isLawful 101 = .ok (.goto 4, 3) := by decide +kernel
theorem dX5_isLawful_104 : decode cX5_isLawful 104 = .ok (.iconst 0, 1) := by decide +kernel
theorem dX5_isLawful_105 : decode cX5_isLawful 105 = .ok (.ireturn, 1) := by decide +kernel
theorem dX5_judges_0 : decode cX5_judges 0 = .ok (.aload_n 0, 1) := by decide +kernel
theorem dX5_judges_1 : decode cX5_judges 1 = .ok (.iconst 0, 1) := by decide +kernel
theorem dX5_judges_2 : decode cX5_judges 2 = .ok (.putfield 131, 3) := by decide +kernel
theorem dX5_judges_5 : decode cX5_judges 5 = .ok (.aload_n 0, 1) := by decide +kernel
theorem dX5_judges_6 : decode cX5_judges 6 = .ok (.iconst (-1), 1) := by decide +kernel
theorem dX5_judges_7 : decode cX5_judges 7 = .ok (.putfield 134, 3) := by decide +kernel
theorem dX5_judges_10 : decode cX5_judges 10 = .ok (.aload_n 0, 1) := by decide +kernel
theorem dX5_judges_11 : decode cX5_judges 11 = .ok (.iconst 0, 1) := by decide +kernel
theorem dX5_judges_12 : decode cX5_judges 12 = .ok (.putfield 124, 3) := by decide +kernel
theorem dX5_judges_15 : decode cX5_judges 15 = .ok (.iconst 0, 1) := by decide +kernel
theorem dX5_judges_16 : decode cX5_judges 16 = .ok (.istore_n 3, 1) := by decide +kernel
theorem dX5_judges_17 : decode cX5_judges 17 = .ok (.iload_n 3, 1) := by decide +kernel
theorem dX5_judges_18 : decode cX5_judges 18 = .ok (.iload_n 1, 1) := by decide +kernel
theorem dX5_judges_19 : decode cX5_judges 19 = .ok (.if_icmp .ge 117, 3) := by decide +kernel
theorem dX5_judges_22 : decode cX5_judges 22 = .ok (.aload_n 0, 1) := by decide +kernel
theorem dX5_judges_23 : decode cX5_judges 23 = .ok (.getfield 34, 3) := by decide +kernel
theorem dX5_judges_26 : decode cX5_judges 26 = .ok (.iload_n 3, 1) := by decide +kernel
theorem dX5_judges_27 : decode cX5_judges 27 = .ok (.iload_n 3, 1) := by decide +kernel
theorem dX5_judges_28 : decode cX5_judges 28 = .ok (.iload_n 2, 1) := by decide +kernel
theorem dX5_judges_29 : decode cX5_judges 29 = .ok (.if_icmp .eq 15, 3) := by decide +kernel
theorem dX5_judges_32 : decode cX5_judges 32 = .ok (.aload_n 0, 1) := by decide +kernel
theorem dX5_judges_33 : decode cX5_judges 33 = .ok (.iload_n 3, 1) := by decide +kernel
theorem dX5_judges_34 : decode cX5_judges 34 = .ok (.invokevirtual 137, 3) := by decide +kernel
theorem dX5_judges_37 : decode cX5_judges 37 = .ok (.ifCond .eq 7, 3) := by decide +kernel
theorem dX5_judges_40 : decode cX5_judges 40 = .ok (.iconst 1, 1) := by decide +kernel
theorem dX5_judges_41 : decode cX5_judges 41 = .ok (.goto 4, 3) := by decide +kernel
theorem dX5_judges_44 : decode cX5_judges 44 = .ok (.iconst 0, 1) := by decide +kernel
theorem dX5_judges_45 : decode cX5_judges 45 = .ok (.bastore, 1) := by decide +kernel
theorem dX5_judges_46 : decode cX5_judges 46 = .ok (.aload_n 0, 1) := by decide +kernel
theorem dX5_judges_47 : decode cX5_judges 47 = .ok (.dup, 1) := by decide +kernel
theorem dX5_judges_48 : decode cX5_judges 48 = .ok (.getfield 124, 3) := by decide +kernel
theorem dX5_judges_51 : decode cX5_judges 51 = .ok (.aload_n 0, 1) := by decide +kernel
theorem dX5_judges_52 : decode cX5_judges 52 = .ok (.getfield 34, 3) := by decide +kernel
theorem dX5_judges_55 : decode cX5_judges 55 = .ok (.iload_n 3, 1) := by decide +kernel
theorem dX5_judges_56 : decode cX5_judges 56 = .ok (.baload, 1) := by decide +kernel
theorem dX5_judges_57 : decode cX5_judges 57 = .ok (.ifCond .eq 16, 3) := by decide +kernel
theorem dX5_judges_60 : decode cX5_judges 60 = .ok (.iconst 1, 1) := by decide +kernel
theorem dX5_judges_61 : decode cX5_judges 61 = .ok (.aload_n 0, 1) := by decide +kernel
theorem dX5_judges_62 : decode cX5_judges 62 = .ok (.getfield 28, 3) := by decide +kernel
theorem dX5_judges_65 : decode cX5_judges 65 = .ok (.iconst 2, 1) := by decide +kernel
theorem dX5_judges_66 : decode cX5_judges 66 = .ok (.iload_n 3, 1) := by decide +kernel
theorem dX5_judges_67 : decode cX5_judges 67 = .ok (.imul, 1) := by decide +kernel
theorem dX5_judges_68 : decode cX5_judges 68 = .ok (.iaload, 1) := by decide +kernel
theorem dX5_judges_69 : decode cX5_judges 69 = .ok (.ishl, 1) := by decide +kernel
theorem dX5_judges_70 : decode cX5_judges 70 = .ok (.goto 4, 3) := by decide +kernel
theorem dX5_judges_73 : decode cX5_judges 73 = .ok (.iconst 0, 1) := by decide +kernel
theorem dX5_judges_74 : decode cX5_judges 74 = .ok (.ior, 1) := by decide +kernel
theorem dX5_judges_75 : decode cX5_judges 75 = .ok (.putfield 124, 3) := by decide +kernel
theorem dX5_judges_78 : decode cX5_judges 78 = .ok (.aload_n 0, 1) := by decide +kernel
theorem dX5_judges_79 : decode cX5_judges 79 = .ok (.dup, 1) := by decide +kernel
theorem dX5_judges_80 : decode cX5_judges 80 = .ok (.getfield 131, 3) := by decide +kernel
theorem dX5_judges_83 : decode cX5_judges 83 = .ok (.aload_n 0, 1) := by decide +kernel
theorem dX5_judges_84 : decode cX5_judges 84 = .ok (.getfield 34, 3) := by decide +kernel
theorem dX5_judges_87 : decode cX5_judges 87 = .ok (.iload_n 3, 1) := by decide +kernel
theorem dX5_judges_88 : decode cX5_judges 88 = .ok (.baload, 1) := by decide +kernel
theorem dX5_judges_89 : decode cX5_judges 89 = .ok (.ifCond .eq 7, 3) := by decide +kernel
theorem dX5_judges_92 : decode cX5_judges 92 = .ok (.iconst 0, 1) := by decide +kernel
theorem dX5_judges_93 : decode cX5_judges 93 = .ok (.goto 4, 3) := by decide +kernel
theorem dX5_judges_96 : decode cX5_judges 96 = .ok (.iconst 1, 1) := by decide +kernel
theorem dX5_judges_97 : decode cX5_judges 97 = .ok (.iadd, 1) := by decide +kernel
theorem dX5_judges_98 : decode cX5_judges 98 = .ok (.putfield 131, 3) := by decide +kernel
theorem dX5_judges_101 : decode cX5_judges 101 = .ok (.aload_n 0, 1) := by decide +kernel
theorem dX5_judges_102 : decode cX5_judges 102 = .ok (.aload_n 0, 1) := by decide +kernel
theorem dX5_judges_103 : decode cX5_judges 103 = .ok (.getfield 134, 3) := by decide +kernel
theorem dX5_judges_106 : decode cX5_judges 106 = .ok (.iconst (-1), 1) := by decide +kernel
theorem dX5_judges_107 : decode cX5_judges 107 = .ok (.if_icmp .ne 16, 3) := by decide +kernel
theorem dX5_judges_110 : decode cX5_judges 110 = .ok (.aload_n 0, 1) := by decide +kernel
theorem dX5_judges_111 : decode cX5_judges 111 = .ok (.getfield 34, 3) := by decide +kernel
theorem dX5_judges_114 : decode cX5_judges 114 = .ok (.iload_n 3, 1) := by decide +kernel
theorem dX5_judges_115 : decode cX5_judges 115 = .ok (.baload, 1) := by decide +kernel
theorem dX5_judges_116 : decode cX5_judges 116 = .ok (.ifCond .ne 7, 3) := by decide +kernel
theorem dX5_judges_119 : decode cX5_judges 119 = .ok (.iload_n 3, 1) := by decide +kernel
theorem dX5_judges_120 : decode cX5_judges 120 = .ok (.goto 7, 3) := by decide +kernel
theorem dX5_judges_123 : decode cX5_judges 123 = .ok (.aload_n 0, 1) := by decide +kernel
theorem dX5_judges_124 : decode cX5_judges 124 = .ok (.getfield 134, 3) := by decide +kernel
theorem dX5_judges_127 : decode cX5_judges 127 = .ok (.putfield 134, 3) := by decide +kernel
theorem dX5_judges_130 : decode cX5_judges 130 = .ok (.iinc 3 1, 3) := by decide +kernel
theorem dX5_judges_133 : decode cX5_judges 133 = .ok (.goto (-116), 3) := by decide +kernel
theorem dX5_judges_136 : decode cX5_judges 136 = .ok (.return_, 1) := by decide +kernel
theorem dX5_find_0 : decode cX5_find 0 = .ok (.aload_n 0, 1) := by decide +kernel
theorem dX5_find_1 : decode cX5_find 1 = .ok (.invokevirtual 100, 3) := by decide +kernel
theorem dX5_find_4 : decode cX5_find 4 = .ok (.pop, 1) := by decide +kernel
theorem dX5_find_5 : decode cX5_find 5 = .ok (.aload_n 0, 1) := by decide +kernel
theorem dX5_find_6 : decode cX5_find 6 = .ok (.aload_n 0, 1) := by decide +kernel
theorem dX5_find_7 : decode cX5_find 7 = .ok (.getfield 108, 3) := by decide +kernel
theorem dX5_find_10 : decode cX5_find 10 = .ok (.iconst (-1), 1) := by decide +kernel
theorem dX5_find_11 : decode cX5_find 11 = .ok (.invokevirtual 140, 3) := by decide +kernel
theorem dX5_find_14 : decode cX5_find 14 = .ok (.return_, 1) := by decide +kernel
theorem dX5_judged_0 : decode cX5_judged 0 = .ok (.aload_n 0, 1) := by decide +kernel
theorem dX5_judged_1 : decode cX5_judged 1 = .ok (.invokevirtual 144, 3) := by decide +kernel
theorem dX5_judged_4 : decode cX5_judged 4 = .ok (.aload_n 0, 1) := by decide +kernel
theorem dX5_judged_5 : decode cX5_judged 5 = .ok (.getfield 134, 3) := by decide +kernel
theorem dX5_judged_8 : decode cX5_judged 8 = .ok (.ireturn, 1) := by decide +kernel
theorem dX5_holding_0 : decode cX5_holding 0 = .ok (.iconst 0, 1) := by decide +kernel
theorem dX5_holding_1 : decode cX5_holding 1 = .ok (.istore_n 2, 1) := by decide +kernel
theorem dX5_holding_2 : decode cX5_holding 2 = .ok (.iconst 0, 1) := by decide +kernel
theorem dX5_holding_3 : decode cX5_holding 3 = .ok (.istore_n 3, 1) := by decide +kernel
theorem dX5_holding_4 : decode cX5_holding 4 = .ok (.iload_n 1, 1) := by decide +kernel
theorem dX5_holding_5 : decode cX5_holding 5 = .ok (.iconst 1, 1) := by decide +kernel
theorem dX5_holding_6 : decode cX5_holding 6 = .ok (.isub, 1) := by decide +kernel
theorem dX5_holding_7 : decode cX5_holding 7 = .ok (.istore 4, 2) := by decide +kernel
theorem dX5_holding_9 : decode cX5_holding 9 = .ok (.iload 4, 2) := by decide +kernel
theorem dX5_holding_11 : decode cX5_holding 11 = .ok (.ifCond .lt 74, 3) := by decide +kernel
theorem dX5_holding_14 : decode cX5_holding 14 = .ok (.aload_n 0, 1) := by decide +kernel
theorem dX5_holding_15 : decode cX5_holding 15 = .ok (.getfield 34, 3) := by decide +kernel
theorem dX5_holding_18 : decode cX5_holding 18 = .ok (.iload 4, 2) := by decide +kernel
theorem dX5_holding_20 : decode cX5_holding 20 = .ok (.baload, 1) := by decide +kernel
theorem dX5_holding_21 : decode cX5_holding 21 = .ok (.ifCond .eq 58, 3) := by decide +kernel
theorem dX5_holding_24 : decode cX5_holding 24 = .ok (.iload_n 2, 1) := by decide +kernel
theorem dX5_holding_25 : decode cX5_holding 25 = .ok (.iload 4, 2) := by decide +kernel
theorem dX5_holding_27 : decode cX5_holding 27 = .ok (.invokestatic 127, 3) := by decide +kernel
theorem dX5_holding_30 : decode cX5_holding 30 = .ok (.ifCond .ne 49, 3) := by decide +kernel
theorem dX5_holding_33 : decode cX5_holding 33 = .ok (.iload_n 3, 1) := by decide +kernel
theorem dX5_holding_34 : decode cX5_holding 34 = .ok (.iconst 1, 1) := by decide +kernel
theorem dX5_holding_35 : decode cX5_holding 35 = .ok (.iload 4, 2) := by decide +kernel
theorem dX5_holding_37 : decode cX5_holding 37 = .ok (.ishl, 1) := by decide +kernel
theorem dX5_holding_38 : decode cX5_holding 38 = .ok (.ior, 1) := by decide +kernel
theorem dX5_holding_39 : decode cX5_holding 39 = .ok (.istore_n 3, 1) := by decide +kernel
theorem dX5_holding_40 : decode cX5_holding 40 = .ok (.iload_n 2, 1) := by decide +kernel
theorem dX5_holding_41 : decode cX5_holding 41 = .ok (.aload_n 0, 1) := by decide +kernel
theorem dX5_holding_42 : decode cX5_holding 42 = .ok (.getfield 28, 3) := by decide +kernel
theorem dX5_holding_45 : decode cX5_holding 45 = .ok (.iconst 2, 1) := by decide +kernel
theorem dX5_holding_46 : decode cX5_holding 46 = .ok (.iload 4, 2) := by decide +kernel
theorem dX5_holding_48 : decode cX5_holding 48 = .ok (.imul, 1) := by decide +kernel
theorem dX5_holding_49 : decode cX5_holding 49 = .ok (.iconst 1, 1) := by decide +kernel
theorem dX5_holding_50 : decode cX5_holding 50 = .ok (.iadd, 1) := by decide +kernel
theorem dX5_holding_51 : decode cX5_holding 51 = .ok (.iaload, 1) := by decide +kernel
theorem dX5_holding_52 : decode cX5_holding 52 = .ok (.bipush 12, 2) := by decide +kernel
theorem dX5_holding_54 : decode cX5_holding 54 = .ok (.if_icmp .ge 7, 3) := by decide +kernel
theorem dX5_holding_57 : decode cX5_holding 57 = .ok (.iconst 0, 1) := by decide +kernel
theorem dX5_holding_58 : decode cX5_holding 58 = .ok (.goto 19, 3) := by decide +kernel
theorem dX5_holding_61 : decode cX5_holding 61 = .ok (.iconst 1, 1) := by decide +kernel
theorem dX5_holding_62 : decode cX5_holding 62 = .ok (.aload_n 0, 1) := by decide +kernel
theorem dX5_holding_63 : decode cX5_holding 63 = .ok (.getfield 28, 3) := by decide +kernel
theorem dX5_holding_66 : decode cX5_holding 66 = .ok (.iconst 2, 1) := by decide +kernel
theorem dX5_holding_67 : decode cX5_holding 67 = .ok (.iload 4, 2) := by decide +kernel
theorem dX5_holding_69 : decode cX5_holding 69 = .ok (.imul, 1) := by decide +kernel
theorem dX5_holding_70 : decode cX5_holding 70 = .ok (.iconst 1, 1) := by decide +kernel
theorem dX5_holding_71 : decode cX5_holding 71 = .ok (.iadd, 1) := by decide +kernel
theorem dX5_holding_72 : decode cX5_holding 72 = .ok (.iaload, 1) := by decide +kernel
theorem dX5_holding_73 : decode cX5_holding 73 = .ok (.bipush 12, 2) := by decide +kernel
theorem dX5_holding_75 : decode cX5_holding 75 = .ok (.isub, 1) := by decide +kernel
theorem dX5_holding_76 : decode cX5_holding 76 = .ok (.ishl, 1) := by decide +kernel
theorem dX5_holding_77 : decode cX5_holding 77 = .ok (.ior, 1) := by decide +kernel
theorem dX5_holding_78 : decode cX5_holding 78 = .ok (.istore_n 2, 1) := by decide +kernel
theorem dX5_holding_79 : decode cX5_holding 79 = .ok (.iinc 4 (-1), 3) := by decide +kernel
theorem dX5_holding_82 : decode cX5_holding 82 = .ok (.goto (-73), 3) := by decide +kernel
theorem dX5_holding_85 : decode cX5_holding 85 = .ok (.iload_n 3, 1) := by decide +kernel
theorem dX5_holding_86 : decode cX5_holding 86 = .ok (.ireturn, 1) := by decide +kernel
theorem dX5_struck_0 : decode cX5_struck 0 = .ok (.aload_n 0, 1) := by decide +kernel
theorem dX5_struck_1 : decode cX5_struck 1 = .ok (.iload_n 1, 1) := by decide +kernel
theorem dX5_struck_2 : decode cX5_struck 2 = .ok (.invokevirtual 147, 3) := by decide +kernel
theorem dX5_struck_5 : decode cX5_struck 5 = .ok (.istore_n 2, 1) := by decide +kernel
theorem dX5_struck_6 : decode cX5_struck 6 = .ok (.iconst 0, 1) := by decide +kernel
theorem dX5_struck_7 : decode cX5_struck 7 = .ok (.istore_n 3, 1) := by decide +kernel
theorem dX5_struck_8 : decode cX5_struck 8 = .ok (.iconst 0, 1) := by decide +kernel
theorem dX5_struck_9 : decode cX5_struck 9 = .ok (.istore 4, 2) := by decide +kernel
theorem dX5_struck_11 : decode cX5_struck 11 = .ok (.iload 4, 2) := by decide +kernel
theorem dX5_struck_13 : decode cX5_struck 13 = .ok (.iload_n 1, 1) := by decide +kernel
theorem dX5_struck_14 : decode cX5_struck 14 = .ok (.if_icmp .ge 54, 3) := by decide +kernel
theorem dX5_struck_17 : decode cX5_struck 17 = .ok (.iload_n 3, 1) := by decide +kernel
theorem dX5_struck_18 : decode cX5_struck 18 = .ok (.iload_n 2, 1) := by decide +kernel
theorem dX5_struck_19 : decode cX5_struck 19 = .ok (.iload 4, 2) := by decide +kernel
theorem dX5_struck_21 : decode cX5_struck 21 = .ok (.invokestatic 127, 3) := by decide +kernel
theorem dX5_struck_24 : decode cX5_struck 24 = .ok (.ifCond .eq 35, 3) := by decide +kernel
theorem dX5_struck_27 : decode cX5_struck 27 = .ok (.aload_n 0, 1) := by decide +kernel
theorem dX5_struck_28 : decode cX5_struck 28 = .ok (.getfield 28, 3) := by decide +kernel
theorem dX5_struck_31 : decode cX5_struck 31 = .ok (.iconst 2, 1) := by decide +kernel
theorem dX5_struck_32 : decode cX5_struck 32 = .ok (.iload 4, 2) := by decide +kernel
theorem dX5_struck_34 : decode cX5_struck 34 = .ok (.imul, 1) := by decide +kernel
theorem dX5_struck_35 : decode cX5_struck 35 = .ok (.iconst 1, 1) := by decide +kernel
theorem dX5_struck_36 : decode cX5_struck 36 = .ok (.iadd, 1) := by decide +kernel
theorem dX5_struck_37 : decode cX5_struck 37 = .ok (.iaload, 1) := by decide +kernel
theorem dX5_struck_38 : decode cX5_struck 38 = .ok (.bipush 12, 2) := by decide +kernel
theorem dX5_struck_40 : decode cX5_struck 40 = .ok (.if_icmp .ge 19, 3) := by decide +kernel
theorem dX5_struck_43 : decode cX5_struck 43 = .ok (.iconst 1, 1) := by decide +kernel
theorem dX5_struck_44 : decode cX5_struck 44 = .ok (.aload_n 0, 1) := by decide +kernel
theorem dX5_struck_45 : decode cX5_struck 45 = .ok (.getfield 28, 3) := by decide +kernel
theorem dX5_struck_48 : decode cX5_struck 48 = .ok (.iconst 2, 1) := by decide +kernel
theorem dX5_struck_49 : decode cX5_struck 49 = .ok (.iload 4, 2) := by decide +kernel
theorem dX5_struck_51 : decode cX5_struck 51 = .ok (.imul, 1) := by decide +kernel
theorem dX5_struck_52 : decode cX5_struck 52 = .ok (.iconst 1, 1) := by decide +kernel
theorem dX5_struck_53 : decode cX5_struck 53 = .ok (.iadd, 1) := by decide +kernel
theorem dX5_struck_54 : decode cX5_struck 54 = .ok (.iaload, 1) := by decide +kernel
theorem dX5_struck_55 : decode cX5_struck 55 = .ok (.ishl, 1) := by decide +kernel
theorem dX5_struck_56 : decode cX5_struck 56 = .ok (.goto 4, 3) := by decide +kernel
theorem dX5_struck_59 : decode cX5_struck 59 = .ok (.iconst 0, 1) := by decide +kernel
theorem dX5_struck_60 : decode cX5_struck 60 = .ok (.ior, 1) := by decide +kernel
theorem dX5_struck_61 : decode cX5_struck 61 = .ok (.istore_n 3, 1) := by decide +kernel
theorem dX5_struck_62 : decode cX5_struck 62 = .ok (.iinc 4 1, 3) := by decide +kernel
theorem dX5_struck_65 : decode cX5_struck 65 = .ok (.goto (-54), 3) := by decide +kernel
theorem dX5_struck_68 : decode cX5_struck 68 = .ok (.iload_n 3, 1) := by decide +kernel
theorem dX5_struck_69 : decode cX5_struck 69 = .ok (.ireturn, 1) := by decide +kernel
theorem dX5_standing_0 : decode cX5_standing 0 = .ok (.aload_n 0, 1) := by decide +kernel
theorem dX5_standing_1 : decode cX5_standing 1 = .ok (.iload_n 1, 1) := by decide +kernel
theorem dX5_standing_2 : decode cX5_standing 2 = .ok (.invokevirtual 150, 3) := by decide +kernel
theorem dX5_standing_5 : decode cX5_standing 5 = .ok (.istore_n 2, 1) := by decide +kernel
theorem dX5_standing_6 : decode cX5_standing 6 = .ok (.iconst 0, 1) := by decide +kernel
theorem dX5_standing_7 : decode cX5_standing 7 = .ok (.istore_n 3, 1) := by decide +kernel
theorem dX5_standing_8 : decode cX5_standing 8 = .ok (.iload_n 3, 1) := by decide +kernel
theorem dX5_standing_9 : decode cX5_standing 9 = .ok (.aload_n 0, 1) := by decide +kernel
theorem dX5_standing_10 : decode cX5_standing 10 = .ok (.getfield 81, 3) := by decide +kernel
theorem dX5_standing_13 : decode cX5_standing 13 = .ok (.if_icmp .ge 47, 3) := by decide +kernel
theorem dX5_standing_16 : decode cX5_standing 16 = .ok (.iload_n 2, 1) := by decide +kernel
theorem dX5_standing_17 : decode cX5_standing 17 = .ok (.aload_n 0, 1) := by decide +kernel
theorem dX5_standing_18 : decode cX5_standing 18 = .ok (.getfield 25, 3) := by decide +kernel
theorem dX5_standing_21 : decode cX5_standing 21 = .ok (.iconst 3, 1) := by decide +kernel
theorem dX5_standing_22 : decode cX5_standing 22 = .ok (.iload_n 3, 1) := by decide +kernel
theorem dX5_standing_23 : decode cX5_standing 23 = .ok (.imul, 1) := by decide +kernel
theorem dX5_standing_24 : decode cX5_standing 24 = .ok (.iconst 2, 1) := by decide +kernel
theorem dX5_standing_25 : decode cX5_standing 25 = .ok (.iadd, 1) := by decide +kernel
theorem dX5_standing_26 : decode cX5_standing 26 = .ok (.iaload, 1) := by decide +kernel
theorem dX5_standing_27 : decode cX5_standing 27 = .ok (.ifCond .ne 24, 3) := by decide +kernel
theorem dX5_standing_30 : decode cX5_standing 30 = .ok (.aload_n 0, 1) := by decide +kernel
theorem dX5_standing_31 : decode cX5_standing 31 = .ok (.getfield 25, 3) := by decide +kernel
theorem dX5_standing_34 : decode cX5_standing 34 = .ok (.iconst 3, 1) := by decide +kernel
theorem dX5_standing_35 : decode cX5_standing 35 = .ok (.iload_n 3, 1) := by decide +kernel
theorem dX5_standing_36 : decode cX5_standing 36 = .ok (.imul, 1) := by decide +kernel
theorem dX5_standing_37 : decode cX5_standing 37 = .ok (.iconst 1, 1) := by decide +kernel
theorem dX5_standing_38 : decode cX5_standing 38 = .ok (.iadd, 1) := by decide +kernel
theorem dX5_standing_39 : decode cX5_standing 39 = .ok (.iaload, 1) := by decide +kernel
theorem dX5_standing_40 : decode cX5_standing 40 = .ok (.iload_n 2, 1) := by decide +kernel
theorem dX5_standing_41 : decode cX5_standing 41 = .ok (.iand, 1) := by decide +kernel
theorem dX5_standing_42 : decode cX5_standing 42 = .ok (.ifCond .eq 9, 3) := by decide +kernel
theorem dX5_standing_45 : decode cX5_standing 45 = .ok (.iconst 1, 1) := by decide +kernel
theorem dX5_standing_46 : decode cX5_standing 46 = .ok (.iload_n 3, 1) := by decide +kernel
theorem dX5_standing_47 : decode cX5_standing 47 = .ok (.ishl, 1) := by decide +kernel
theorem dX5_standing_48 : decode cX5_standing 48 = .ok (.goto 4, 3) := by decide +kernel
theorem dX5_standing_51 : decode cX5_standing 51 = .ok (.iconst 0, 1) := by decide +kernel
theorem dX5_standing_52 : decode cX5_standing 52 = .ok (.ior, 1) := by decide +kernel
theorem dX5_standing_53 : decode cX5_standing 53 = .ok (.istore_n 2, 1) := by decide +kernel
theorem dX5_standing_54 : decode cX5_standing 54 = .ok (.iinc 3 1, 3) := by decide +kernel
theorem dX5_standing_57 : decode cX5_standing 57 = .ok (.goto (-49), 3) := by decide +kernel
theorem dX5_standing_60 : decode cX5_standing 60 = .ok (.iconst 1, 1) := by decide +kernel
theorem dX5_standing_61 : decode cX5_standing 61 = .ok (.aload_n 0, 1) := by decide +kernel
theorem dX5_standing_62 : decode cX5_standing 62 = .ok (.getfield 81, 3) := by decide +kernel
theorem dX5_standing_65 : decode cX5_standing 65 = .ok (.ishl, 1) := by decide +kernel
theorem dX5_standing_66 : decode cX5_standing 66 = .ok (.iconst 1, 1) := by decide +kernel
theorem dX5_standing_67 : decode cX5_standing 67 = .ok (.isub, 1) := by decide +kernel
theorem dX5_standing_68 : decode cX5_standing 68 = .ok (.iload_n 2, 1) := by decide +kernel
theorem dX5_standing_69 : decode cX5_standing 69 = .ok (.iconst (-1), 1) := by decide +kernel
theorem dX5_standing_70 : decode cX5_standing 70 = .ok (.ixor, 1) := by decide +kernel
theorem dX5_standing_71 : decode cX5_standing 71 = .ok (.iand, 1) := by decide +kernel
theorem dX5_standing_72 : decode cX5_standing 72 = .ok (.ireturn, 1) := by decide +kernel
theorem dX5_holds_0 : decode cX5_holds 0 = .ok (.aload_n 0, 1) := by decide +kernel
theorem dX5_holds_1 : decode cX5_holds 1 = .ok (.invokevirtual 144, 3) := by decide +kernel
theorem dX5_holds_4 : decode cX5_holds 4 = .ok (.iload_n 1, 1) := by decide +kernel
theorem dX5_holds_5 : decode cX5_holds 5 = .ok (.i2l, 1) := by decide +kernel
theorem dX5_holds_6 : decode cX5_holds 6 = .ok (.lconst 0, 1) := by decide +kernel
theorem dX5_holds_7 : decode cX5_holds 7 = .ok (.aload_n 0, 1) := by decide +kernel
theorem dX5_holds_8 : decode cX5_holds 8 = .ok (.getfield 108, 3) := by decide +kernel
theorem dX5_holds_11 : decode cX5_holds 11 = .ok (.iconst 1, 1) := by decide +kernel
theorem dX5_holds_12 : decode cX5_holds 12 = .ok (.isub, 1) := by decide +kernel
theorem dX5_holds_13 : decode cX5_holds 13 = .ok (.i2l, 1) := by decide +kernel
theorem dX5_holds_14 : decode cX5_holds 14 = .ok (.invokestatic 44, 3) := by decide +kernel
theorem dX5_holds_17 : decode cX5_holds 17 = .ok (.ifCond .eq 18, 3) := by decide +kernel
theorem dX5_holds_20 : decode cX5_holds 20 = .ok (.aload_n 0, 1) := by decide +kernel
theorem dX5_holds_21 : decode cX5_holds 21 = .ok (.aload_n 0, 1) := by decide +kernel
theorem dX5_holds_22 : decode cX5_holds 22 = .ok (.getfield 108, 3) := by decide +kernel
theorem dX5_holds_25 : decode cX5_holds 25 = .ok (.invokevirtual 147, 3) := by decide +kernel
theorem dX5_holds_28 : decode cX5_holds 28 = .ok (.iload_n 1, 1) := by decide +kernel
theorem dX5_holds_29 : decode cX5_holds 29 = .ok (.ishr, 1) := by decide +kernel
theorem dX5_holds_30 : decode cX5_holds 30 = .ok (.iconst 1, 1) := by decide +kernel
theorem dX5_holds_31 : decode cX5_holds 31 = .ok (.iand, 1) := by decide +kernel
theorem dX5_holds_32 : decode cX5_holds 32 = .ok (.goto 5, 3) := by decide +kernel
theorem dX5_holds_35 : decode cX5_holds 35 = .ok (.bipush (-2), 2) := by decide +kernel
theorem dX5_holds_37 : decode cX5_holds 37 = .ok (.ireturn, 1) := by decide +kernel
theorem dX5_stateOf_0 : decode cX5_stateOf 0 = .ok (.aload_n 0, 1) := by decide +kernel
theorem dX5_stateOf_1 : decode cX5_stateOf 1 = .ok (.iload_n 1, 1) := by decide +kernel
theorem dX5_stateOf_2 : decode cX5_stateOf 2 = .ok (.iconst (-1), 1) := by decide +kernel
theorem dX5_stateOf_3 : decode cX5_stateOf 3 = .ok (.invokevirtual 140, 3) := by decide +kernel
theorem dX5_stateOf_6 : decode cX5_stateOf 6 = .ok (.iload_n 2, 1) := by decide +kernel
theorem dX5_stateOf_7 : decode cX5_stateOf 7 = .ok (.ifCond .ne 11, 3) := by decide +kernel
theorem dX5_stateOf_10 : decode cX5_stateOf 10 = .ok (.aload_n 0, 1) := by decide +kernel
theorem dX5_stateOf_11 : decode cX5_stateOf 11 = .ok (.iload_n 1, 1) := by decide +kernel
theorem dX5_stateOf_12 : decode cX5_stateOf 12 = .ok (.invokevirtual 153, 3) := by decide +kernel
theorem dX5_stateOf_15 : decode cX5_stateOf 15 = .ok (.goto 12, 3) := by decide +kernel
theorem dX5_stateOf_18 : decode cX5_stateOf 18 = .ok (.bipush 63, 2) := by decide +kernel
theorem dX5_stateOf_20 : decode cX5_stateOf 20 = .ok (.aload_n 0, 1) := by decide +kernel
theorem dX5_stateOf_21 : decode cX5_stateOf 21 = .ok (.getfield 124, 3) := by decide +kernel
theorem dX5_stateOf_24 : decode cX5_stateOf 24 = .ok (.iconst (-1), 1) := by decide +kernel
theorem dX5_stateOf_25 : decode cX5_stateOf 25 = .ok (.ixor, 1) := by decide +kernel
theorem dX5_stateOf_26 : decode cX5_stateOf 26 = .ok (.iand, 1) := by decide +kernel
theorem dX5_stateOf_27 : decode cX5_stateOf 27 = .ok (.ireturn, 1) := by decide +kernel
theorem dX5_state_0 : decode cX5_state 0 = .ok (.aload_n 0, 1) := by decide +kernel
theorem dX5_state_1 : decode cX5_state 1 = .ok (.invokevirtual 100, 3) := by decide +kernel
theorem dX5_state_4 : decode cX5_state 4 = .ok (.pop, 1) := by decide +kernel
theorem dX5_state_5 : decode cX5_state 5 = .ok (.iload_n 1, 1) := by decide +kernel
theorem dX5_state_6 : decode cX5_state 6 = .ok (.i2l, 1) := by decide +kernel
theorem dX5_state_7 : decode cX5_state 7 = .ok (.lconst 0, 1) := by decide +kernel
theorem dX5_state_8 : decode cX5_state 8 = .ok (.aload_n 0, 1) := by decide +kernel
theorem dX5_state_9 : decode cX5_state 9 = .ok (.getfield 108, 3) := by decide +kernel
theorem dX5_state_12 : decode cX5_state 12 = .ok (.i2l, 1) := by decide +kernel
theorem dX5_state_13 : decode cX5_state 13 = .ok (.invokestatic 44, 3) := by decide +kernel
theorem dX5_state_16 : decode cX5_state 16 = .ok (.ifCond .eq 19, 3) := by decide +kernel
theorem dX5_state_19 : decode cX5_state 19 = .ok (.iload_n 2, 1) := by decide +kernel
theorem dX5_state_20 : decode cX5_state 20 = .ok (.invokestatic 156, 3) := by decide +kernel
theorem dX5_state_23 : decode cX5_state 23 = .ok (.ifCond .eq 12, 3) := by decide +kernel
theorem dX5_state_26 : decode cX5_state 26 = .ok (.aload_n 0, 1) := by decide +kernel
theorem dX5_state_27 : decode cX5_state 27 = .ok (.iload_n 1, 1) := by decide +kernel
theorem dX5_state_28 : decode cX5_state 28 = .ok (.iload_n 2, 1) := by decide +kernel
theorem dX5_state_29 : decode cX5_state 29 = .ok (.invokevirtual 159, 3) := by decide +kernel
theorem dX5_state_32 : decode cX5_state 32 = .ok (.goto 5, 3) := by decide +kernel
theorem dX5_state_35 : decode cX5_state 35 = .ok (.bipush (-2), 2) := by decide +kernel
theorem dX5_state_37 : decode cX5_state 37 = .ok (.ireturn, 1) := by decide +kernel
theorem dX5_rootOf_0 : decode cX5_rootOf 0 = .ok (.aload_n 0, 1) := by decide +kernel
theorem dX5_rootOf_1 : decode cX5_rootOf 1 = .ok (.aload_n 0, 1) := by decide +kernel
theorem dX5_rootOf_2 : decode cX5_rootOf 2 = .ok (.getfield 108, 3) := by decide +kernel
theorem dX5_rootOf_5 : decode cX5_rootOf 5 = .ok (.invokevirtual 150, 3) := by decide +kernel
theorem dX5_rootOf_8 : decode cX5_rootOf 8 = .ok (.istore_n 2, 1) := by decide +kernel
theorem dX5_rootOf_9 : decode cX5_rootOf 9 = .ok (.iconst 0, 1) := by decide +kernel
theorem dX5_rootOf_10 : decode cX5_rootOf 10 = .ok (.istore_n 3, 1) := by decide +kernel
theorem dX5_rootOf_11 : decode cX5_rootOf 11 = .ok (.iload_n 3, 1) := by decide +kernel
theorem dX5_rootOf_12 : decode cX5_rootOf 12 = .ok (.iload_n 1, 1) := by decide +kernel
theorem dX5_rootOf_13 : decode cX5_rootOf 13 = .ok (.if_icmp .gt 127, 3) := by decide +kernel
theorem dX5_rootOf_16 : decode cX5_rootOf 16 = .ok (.iload_n 2, 1) := by decide +kernel
theorem dX5_rootOf_17 : decode cX5_rootOf 17 = .ok (.iload_n 3, 1) := by decide +kernel
theorem dX5_rootOf_18 : decode cX5_rootOf 18 = .ok (.invokestatic 127, 3) := by decide +kernel
theorem dX5_rootOf_21 : decode cX5_rootOf 21 = .ok (.ifCond .eq 7, 3) := by decide +kernel
theorem dX5_rootOf_24 : decode cX5_rootOf 24 = .ok (.iload_n 3, 1) := by decide +kernel
theorem dX5_rootOf_25 : decode cX5_rootOf 25 = .ok (.goto 5, 3) := by decide +kernel
theorem dX5_rootOf_28 : decode cX5_rootOf 28 = .ok (.bipush 12, 2) := by decide +kernel
theorem dX5_rootOf_30 : decode cX5_rootOf 30 = .ok (.istore 4, 2) := by decide +kernel
theorem dX5_rootOf_32 : decode cX5_rootOf 32 = .ok (.iconst 0, 1) := by decide +kernel
theorem dX5_rootOf_33 : decode cX5_rootOf 33 = .ok (.istore 5, 2) := by decide +kernel
theorem dX5_rootOf_35 : decode cX5_rootOf 35 = .ok (.iload 5, 2) := by decide +kernel
theorem dX5_rootOf_37 : decode cX5_rootOf 37 = .ok (.iload_n 3, 1) := by decide +kernel
theorem dX5_rootOf_38 : decode cX5_rootOf 38 = .ok (.if_icmp .ge 77, 3) := by decide +kernel
theorem dX5_rootOf_41 : decode cX5_rootOf 41 = .ok (.aload_n 0, 1) := by decide +kernel
theorem dX5_rootOf_42 : decode cX5_rootOf 42 = .ok (.getfield 25, 3) := by decide +kernel
theorem dX5_rootOf_45 : decode cX5_rootOf 45 = .ok (.iconst 3, 1) := by decide +kernel
theorem dX5_rootOf_46 : decode cX5_rootOf 46 = .ok (.iload_n 3, 1) := by decide +kernel
theorem dX5_rootOf_47 : decode cX5_rootOf 47 = .ok (.imul, 1) := by decide +kernel
theorem dX5_rootOf_48 : decode cX5_rootOf 48 = .ok (.iconst 2, 1) := by decide +kernel
theorem dX5_rootOf_49 : decode cX5_rootOf 49 = .ok (.iadd, 1) := by decide +kernel
theorem dX5_rootOf_50 : decode cX5_rootOf 50 = .ok (.iaload, 1) := by decide +kernel
theorem dX5_rootOf_51 : decode cX5_rootOf 51 = .ok (.ifCond .ne 64, 3) := by decide +kernel
theorem dX5_rootOf_54 : decode cX5_rootOf 54 = .ok (.aload_n 0, 1) := by decide +kernel
theorem dX5_rootOf_55 : decode cX5_rootOf 55 = .ok (.getfield 25, 3) := by decide +kernel
theorem dX5_rootOf_58 : decode cX5_rootOf 58 = .ok (.iconst 3, 1) := by decide +kernel
theorem dX5_rootOf_59 : decode cX5_rootOf 59 = .ok (.iload_n 3, 1) := by decide +kernel
theorem dX5_rootOf_60 : decode cX5_rootOf 60 = .ok (.imul, 1) := by decide +kernel
theorem dX5_rootOf_61 : decode cX5_rootOf 61 = .ok (.iconst 1, 1) := by decide +kernel
theorem dX5_rootOf_62 : decode cX5_rootOf 62 = .ok (.iadd, 1) := by decide +kernel
theorem dX5_rootOf_63 : decode cX5_rootOf 63 = .ok (.iaload, 1) := by decide +kernel
theorem dX5_rootOf_64 : decode cX5_rootOf 64 = .ok (.iload 5, 2) := by decide +kernel
theorem dX5_rootOf_66 : decode cX5_rootOf 66 = .ok (.invokestatic 127, 3) := by decide +kernel
theorem dX5_rootOf_69 : decode cX5_rootOf 69 = .ok (.ifCond .eq 36, 3) := by decide +kernel
theorem dX5_rootOf_72 : decode cX5_rootOf 72 = .ok (.aload_n 0, 1) := by decide +kernel
theorem dX5_rootOf_73 : decode cX5_rootOf 73 = .ok (.getfield 38, 3) := by decide +kernel
theorem dX5_rootOf_76 : decode cX5_rootOf 76 = .ok (.iload 5, 2) := by decide +kernel
theorem dX5_rootOf_78 : decode cX5_rootOf 78 = .ok (.iaload, 1) := by decide +kernel
theorem dX5_rootOf_79 : decode cX5_rootOf 79 = .ok (.iconst (-1), 1) := by decide +kernel
theorem dX5_rootOf_80 : decode cX5_rootOf 80 = .ok (.if_icmp .eq 25, 3) := by decide +kernel
theorem dX5_rootOf_83 : decode cX5_rootOf 83 = .ok (.aload_n 0, 1) := by decide +kernel
theorem dX5_rootOf_84 : decode cX5_rootOf 84 = .ok (.getfield 38, 3) := by decide +kernel
theorem dX5_rootOf_87 : decode cX5_rootOf 87 = .ok (.iload 5, 2) := by decide +kernel
theorem dX5_rootOf_89 : decode cX5_rootOf 89 = .ok (.iaload, 1) := by decide +kernel
theorem dX5_rootOf_90 : decode cX5_rootOf 90 = .ok (.iload 4, 2) := by decide +kernel
theorem dX5_rootOf_92 : decode cX5_rootOf 92 = .ok (.if_icmp .ge 13, 3) := by decide +kernel
theorem dX5_rootOf_95 : decode cX5_rootOf 95 = .ok (.aload_n 0, 1) := by decide +kernel
theorem dX5_rootOf_96 : decode cX5_rootOf 96 = .ok (.getfield 38, 3) := by decide +kernel
theorem dX5_rootOf_99 : decode cX5_rootOf 99 = .ok (.iload 5, 2) := by decide +kernel
theorem dX5_rootOf_101 : decode cX5_rootOf 101 = .ok (.iaload, 1) := by decide +kernel
theorem dX5_rootOf_102 : decode cX5_rootOf 102 = .ok (.goto 5, 3) := by decide +kernel
theorem dX5_rootOf_105 : decode cX5_rootOf 105 = .ok (.iload 4, 2) := by decide +kernel
theorem dX5_rootOf_107 : decode cX5_rootOf 107 = .ok (.istore 4, 2) := by decide +kernel
theorem dX5_rootOf_109 : decode cX5_rootOf 109 = .ok (.iinc 5 1, 3) := by decide +kernel
theorem dX5_rootOf_112 : decode cX5_rootOf 112 = .ok (.goto (-77), 3) := by decide +kernel
theorem dX5_rootOf_115 : decode cX5_rootOf 115 = .ok (.aload_n 0, 1) := by decide +kernel
theorem dX5_rootOf_116 : decode cX5_rootOf 116 = .ok (.getfield 38, 3) := by decide +kernel
theorem dX5_rootOf_119 : decode cX5_rootOf 119 = .ok (.iload_n 3, 1) := by decide +kernel
theorem dX5_rootOf_120 : decode cX5_rootOf 120 = .ok (.iload 4, 2) := by decide +kernel
theorem dX5_rootOf_122 : decode cX5_rootOf 122 = .ok (.bipush 12, 2) := by decide +kernel
theorem dX5_rootOf_124 : decode cX5_rootOf 124 = .ok (.if_icmp .ne 7, 3) := by decide +kernel
theorem dX5_rootOf_127 : decode cX5_rootOf 127 = .ok (.iconst (-1), 1) := by decide +kernel
theorem dX5_rootOf_128 : decode cX5_rootOf 128 = .ok (.goto 5, 3) := by decide +kernel
theorem dX5_rootOf_131 : decode cX5_rootOf 131 = .ok (.iload 4, 2) := by decide +kernel
theorem dX5_rootOf_133 : decode cX5_rootOf 133 = .ok (.iastore, 1) := by decide +kernel
theorem dX5_rootOf_134 : decode cX5_rootOf 134 = .ok (.iinc 3 1, 3) := by decide +kernel
theorem dX5_rootOf_137 : decode cX5_rootOf 137 = .ok (.goto (-126), 3) := by decide +kernel
theorem dX5_rootOf_140 : decode cX5_rootOf 140 = .ok (.aload_n 0, 1) := by decide +kernel
theorem dX5_rootOf_141 : decode cX5_rootOf 141 = .ok (.getfield 38, 3) := by decide +kernel
theorem dX5_rootOf_144 : decode cX5_rootOf 144 = .ok (.iload_n 1, 1) := by decide +kernel
theorem dX5_rootOf_145 : decode cX5_rootOf 145 = .ok (.iaload, 1) := by decide +kernel
theorem dX5_rootOf_146 : decode cX5_rootOf 146 = .ok (.ireturn, 1) := by decide +kernel
theorem dX5_root_0 : decode cX5_root 0 = .ok (.aload_n 0, 1) := by decide +kernel
theorem dX5_root_1 : decode cX5_root 1 = .ok (.invokevirtual 144, 3) := by decide +kernel
theorem dX5_root_4 : decode cX5_root 4 = .ok (.iload_n 1, 1) := by decide +kernel
theorem dX5_root_5 : decode cX5_root 5 = .ok (.i2l, 1) := by decide +kernel
theorem dX5_root_6 : decode cX5_root 6 = .ok (.lconst 0, 1) := by decide +kernel
theorem dX5_root_7 : decode cX5_root 7 = .ok (.aload_n 0, 1) := by decide +kernel
theorem dX5_root_8 : decode cX5_root 8 = .ok (.getfield 81, 3) := by decide +kernel
theorem dX5_root_11 : decode cX5_root 11 = .ok (.iconst 1, 1) := by decide +kernel
theorem dX5_root_12 : decode cX5_root 12 = .ok (.isub, 1) := by decide +kernel
theorem dX5_root_13 : decode cX5_root 13 = .ok (.i2l, 1) := by decide +kernel
theorem dX5_root_14 : decode cX5_root 14 = .ok (.invokestatic 44, 3) := by decide +kernel
theorem dX5_root_17 : decode cX5_root 17 = .ok (.ifCond .eq 11, 3) := by decide +kernel
theorem dX5_root_20 : decode cX5_root 20 = .ok (.aload_n 0, 1) := by decide +kernel
theorem dX5_root_21 : decode cX5_root 21 = .ok (.iload_n 1, 1) := by decide +kernel
theorem dX5_root_22 : decode cX5_root 22 = .ok (.invokevirtual 162, 3) := by decide +kernel
theorem dX5_root_25 : decode cX5_root 25 = .ok (.goto 5, 3) := by decide +kernel
theorem dX5_root_28 : decode cX5_root 28 = .ok (.bipush (-2), 2) := by decide +kernel
theorem dX5_root_30 : decode cX5_root 30 = .ok (.ireturn, 1) := by decide +kernel
theorem dX5_byOf_0 : decode cX5_byOf 0 = .ok (.aload_n 0, 1) := by decide +kernel
theorem dX5_byOf_1 : decode cX5_byOf 1 = .ok (.iload_n 1, 1) := by decide +kernel
theorem dX5_byOf_2 : decode cX5_byOf 2 = .ok (.iconst 0, 1) := by decide +kernel
theorem dX5_byOf_3 : decode cX5_byOf 3 = .ok (.invokevirtual 159, 3) := by decide +kernel
theorem dX5_byOf_6 : decode cX5_byOf 6 = .ok (.aload_n 0, 1) := by decide +kernel
theorem dX5_byOf_7 : decode cX5_byOf 7 = .ok (.iload_n 1, 1) := by decide +kernel
theorem dX5_byOf_8 : decode cX5_byOf 8 = .ok (.iconst 1, 1) := by decide +kernel
theorem dX5_byOf_9 : decode cX5_byOf 9 = .ok (.iadd, 1) := by decide +kernel
theorem dX5_byOf_10 : decode cX5_byOf 10 = .ok (.iconst 0, 1) := by decide +kernel
theorem dX5_byOf_11 : decode cX5_byOf 11 = .ok (.invokevirtual 159, 3) := by decide +kernel
theorem dX5_byOf_14 : decode cX5_byOf 14 = .ok (.ixor, 1) := by decide +kernel
theorem dX5_byOf_15 : decode cX5_byOf 15 = .ok (.ireturn, 1) := by decide +kernel
theorem dX5_by_0 : decode cX5_by 0 = .ok (.aload_n 0, 1) := by decide +kernel
theorem dX5_by_1 : decode cX5_by 1 = .ok (.invokevirtual 100, 3) := by decide +kernel
theorem dX5_by_4 : decode cX5_by 4 = .ok (.pop, 1) := by decide +kernel
theorem dX5_by_5 : decode cX5_by 5 = .ok (.iload_n 1, 1) := by decide +kernel
theorem dX5_by_6 : decode cX5_by 6 = .ok (.i2l, 1) := by decide +kernel
theorem dX5_by_7 : decode cX5_by 7 = .ok (.lconst 0, 1) := by decide +kernel
theorem dX5_by_8 : decode cX5_by 8 = .ok (.aload_n 0, 1) := by decide +kernel
theorem dX5_by_9 : decode cX5_by 9 = .ok (.getfield 108, 3) := by decide +kernel
theorem dX5_by_12 : decode cX5_by 12 = .ok (.iconst 1, 1) := by decide +kernel
theorem dX5_by_13 : decode cX5_by 13 = .ok (.isub, 1) := by decide +kernel
theorem dX5_by_14 : decode cX5_by 14 = .ok (.i2l, 1) := by decide +kernel
theorem dX5_by_15 : decode cX5_by 15 = .ok (.invokestatic 44, 3) := by decide +kernel
theorem dX5_by_18 : decode cX5_by 18 = .ok (.ifCond .eq 11, 3) := by decide +kernel
theorem dX5_by_21 : decode cX5_by 21 = .ok (.aload_n 0, 1) := by decide +kernel
theorem dX5_by_22 : decode cX5_by 22 = .ok (.iload_n 1, 1) := by decide +kernel
theorem dX5_by_23 : decode cX5_by 23 = .ok (.invokevirtual 165, 3) := by decide +kernel
theorem dX5_by_26 : decode cX5_by 26 = .ok (.goto 5, 3) := by decide +kernel
theorem dX5_by_29 : decode cX5_by 29 = .ok (.bipush (-2), 2) := by decide +kernel
theorem dX5_by_31 : decode cX5_by 31 = .ok (.ireturn, 1) := by decide +kernel
theorem dX5_least_0 : decode cX5_least 0 = .ok (.iconst 0, 1) := by decide +kernel
theorem dX5_least_1 : decode cX5_least 1 = .ok (.istore_n 1, 1) := by decide +kernel
theorem dX5_least_2 : decode cX5_least 2 = .ok (.iload_n 1, 1) := by decide +kernel
theorem dX5_least_3 : decode cX5_least 3 = .ok (.bipush 12, 2) := by decide +kernel
theorem dX5_least_5 : decode cX5_least 5 = .ok (.if_icmp .ge 17, 3) := by decide +kernel
theorem dX5_least_8 : decode cX5_least 8 = .ok (.iload_n 0, 1) := by decide +kernel
theorem dX5_least_9 : decode cX5_least 9 = .ok (.iload_n 1, 1) := by decide +kernel
theorem dX5_least_10 : decode cX5_least 10 = .ok (.invokestatic 127, 3) := by decide +kernel
theorem dX5_least_13 : decode cX5_least 13 = .ok (.ifCond .ne 9, 3) := by decide +kernel
theorem dX5_least_16 : decode cX5_least 16 = .ok (.iinc 1 1, 3) := by decide +kernel
theorem dX5_least_19 : decode cX5_least 19 = .ok (.goto (-17), 3) := by decide +kernel
theorem dX5_least_22 : decode cX5_least 22 = .ok (.iload_n 1, 1) := by decide +kernel
theorem dX5_least_23 : decode cX5_least 23 = .ok (.bipush 12, 2) := by decide +kernel
theorem dX5_least_25 : decode cX5_least 25 = .ok (.if_icmp .ne 7, 3) := by decide +kernel
theorem dX5_least_28 : decode cX5_least 28 = .ok (.iconst (-1), 1) := by decide +kernel
theorem dX5_least_29 : decode cX5_least 29 = .ok (.goto 4, 3) := by decide +kernel
theorem dX5_least_32 : decode cX5_least 32 = .ok (.iload_n 1, 1) := by decide +kernel
theorem dX5_least_33 : decode cX5_least 33 = .ok (.ireturn, 1) := by decide +kernel
theorem dX5_withoutOf_0 : decode cX5_withoutOf 0 = .ok (.aload_n 0, 1) := by decide +kernel
theorem dX5_withoutOf_1 : decode cX5_withoutOf 1 = .ok (.aload_n 0, 1) := by decide +kernel
theorem dX5_withoutOf_2 : decode cX5_withoutOf 2 = .ok (.getfield 108, 3) := by decide +kernel
theorem dX5_withoutOf_5 : decode cX5_withoutOf 5 = .ok (.iconst 0, 1) := by decide +kernel
theorem dX5_withoutOf_6 : decode cX5_withoutOf 6 = .ok (.invokevirtual 159, 3) := by decide +kernel
theorem dX5_withoutOf_9 : decode cX5_withoutOf 9 = .ok (.istore_n 3, 1) := by decide +kernel
theorem dX5_withoutOf_10 : decode cX5_withoutOf 10 = .ok (.aload_n 0, 1) := by decide +kernel
theorem dX5_withoutOf_11 : decode cX5_withoutOf 11 = .ok (.aload_n 0, 1) := by decide +kernel
theorem dX5_withoutOf_12 : decode cX5_withoutOf 12 = .ok (.getfield 108, 3) := by decide +kernel
theorem dX5_withoutOf_15 : decode cX5_withoutOf 15 = .ok (.iload_n 1, 1) := by decide +kernel
theorem dX5_withoutOf_16 : decode cX5_withoutOf 16 = .ok (.invokevirtual 140, 3) := by decide +kernel
theorem dX5_withoutOf_19 : decode cX5_withoutOf 19 = .ok (.aload_n 0, 1) := by decide +kernel
theorem dX5_withoutOf_20 : decode cX5_withoutOf 20 = .ok (.aload_n 0, 1) := by decide +kernel
theorem dX5_withoutOf_21 : decode cX5_withoutOf 21 = .ok (.getfield 108, 3) := by decide +kernel
theorem dX5_withoutOf_24 : decode cX5_withoutOf 24 = .ok (.invokevirtual 153, 3) := by decide +kernel
theorem dX5_withoutOf_27 : decode cX5_withoutOf 27 = .ok (.istore 4, 2) := by decide +kernel
theorem dX5_withoutOf_29 : decode cX5_withoutOf 29 = .ok (.iload_n 2, 1) := by decide +kernel
theorem dX5_withoutOf_30 : decode cX5_withoutOf 30 = .ok (.ifCond .ne 8, 3) := by decide +kernel
theorem dX5_withoutOf_33 : decode cX5_withoutOf 33 = .ok (.iload 4, 2) := by decide +kernel
theorem dX5_withoutOf_35 : decode cX5_withoutOf 35 = .ok (.goto 10, 3) := by decide +kernel
theorem dX5_withoutOf_38 : decode cX5_withoutOf 38 = .ok (.iload_n 3, 1) := by decide +kernel
theorem dX5_withoutOf_39 : decode cX5_withoutOf 39 = .ok (.iload 4, 2) := by decide +kernel
theorem dX5_withoutOf_41 : decode cX5_withoutOf 41 = .ok (.ixor, 1) := by decide +kernel
theorem dX5_withoutOf_42 : decode cX5_withoutOf 42 = .ok (.invokestatic 168, 3) := by decide +kernel
theorem dX5_withoutOf_45 : decode cX5_withoutOf 45 = .ok (.ireturn, 1) := by decide +kernel
theorem dX5_without_0 : decode cX5_without 0 = .ok (.aload_n 0, 1) := by decide +kernel
theorem dX5_without_1 : decode cX5_without 1 = .ok (.invokevirtual 100, 3) := by decide +kernel
theorem dX5_without_4 : decode cX5_without 4 = .ok (.pop, 1) := by decide +kernel
theorem dX5_without_5 : decode cX5_without 5 = .ok (.iload_n 1, 1) := by decide +kernel
theorem dX5_without_6 : decode cX5_without 6 = .ok (.i2l, 1) := by decide +kernel
theorem dX5_without_7 : decode cX5_without 7 = .ok (.lconst 0, 1) := by decide +kernel
theorem dX5_without_8 : decode cX5_without 8 = .ok (.aload_n 0, 1) := by decide +kernel
theorem dX5_without_9 : decode cX5_without 9 = .ok (.getfield 108, 3) := by decide +kernel
theorem dX5_without_12 : decode cX5_without 12 = .ok (.iconst 1, 1) := by decide +kernel
theorem dX5_without_13 : decode cX5_without 13 = .ok (.isub, 1) := by decide +kernel
theorem dX5_without_14 : decode cX5_without 14 = .ok (.i2l, 1) := by decide +kernel
theorem dX5_without_15 : decode cX5_without 15 = .ok (.invokestatic 44, 3) := by decide +kernel
theorem dX5_without_18 : decode cX5_without 18 = .ok (.ifCond .eq 19, 3) := by decide +kernel
theorem dX5_without_21 : decode cX5_without 21 = .ok (.iload_n 2, 1) := by decide +kernel
theorem dX5_without_22 : decode cX5_without 22 = .ok (.invokestatic 156, 3) := by decide +kernel
theorem dX5_without_25 : decode cX5_without 25 = .ok (.ifCond .eq 12, 3) := by decide +kernel
theorem dX5_without_28 : decode cX5_without 28 = .ok (.aload_n 0, 1) := by decide +kernel
theorem dX5_without_29 : decode cX5_without 29 = .ok (.iload_n 1, 1) := by decide +kernel
theorem dX5_without_30 : decode cX5_without 30 = .ok (.iload_n 2, 1) := by decide +kernel
theorem dX5_without_31 : decode cX5_without 31 = .ok (.invokevirtual 171, 3) := by decide +kernel
theorem dX5_without_34 : decode cX5_without 34 = .ok (.goto 5, 3) := by decide +kernel
theorem dX5_without_37 : decode cX5_without 37 = .ok (.bipush (-2), 2) := by decide +kernel
theorem dX5_without_39 : decode cX5_without 39 = .ok (.ireturn, 1) := by decide +kernel
theorem dX5_adds_0 : decode cX5_adds 0 = .ok (.iload_n 1, 1) := by decide +kernel
theorem dX5_adds_1 : decode cX5_adds 1 = .ok (.bipush 12, 2) := by decide +kernel
theorem dX5_adds_3 : decode cX5_adds 3 = .ok (.if_icmp .lt 5, 3) := by decide +kernel
theorem dX5_adds_6 : decode cX5_adds 6 = .ok (.iconst 0, 1) := by decide +kernel
theorem dX5_adds_7 : decode cX5_adds 7 = .ok (.ireturn, 1) := by decide +kernel
theorem dX5_adds_8 : decode cX5_adds 8 = .ok (.aload_n 0, 1) := by decide +kernel
theorem dX5_adds_9 : decode cX5_adds 9 = .ok (.iload_n 1, 1) := by decide +kernel
theorem dX5_adds_10 : decode cX5_adds 10 = .ok (.iload_n 2, 1) := by decide +kernel
theorem dX5_adds_11 : decode cX5_adds 11 = .ok (.bipush 24, 2) := by decide +kernel
theorem dX5_adds_13 : decode cX5_adds 13 = .ok (.idiv, 1) := by decide +kernel
theorem dX5_adds_14 : decode cX5_adds 14 = .ok (.iload_n 2, 1) := by decide +kernel
theorem dX5_adds_15 : decode cX5_adds 15 = .ok (.bipush 24, 2) := by decide +kernel
theorem dX5_adds_17 : decode cX5_adds 17 = .ok (.irem, 1) := by decide +kernel
theorem dX5_adds_18 : decode cX5_adds 18 = .ok (.invokevirtual 111, 3) := by decide +kernel
theorem dX5_adds_21 : decode cX5_adds 21 = .ok (.aload_n 0, 1) := by decide +kernel
theorem dX5_adds_22 : decode cX5_adds 22 = .ok (.iload_n 1, 1) := by decide +kernel
theorem dX5_adds_23 : decode cX5_adds 23 = .ok (.iconst (-1), 1) := by decide +kernel
theorem dX5_adds_24 : decode cX5_adds 24 = .ok (.invokevirtual 140, 3) := by decide +kernel
theorem dX5_adds_27 : decode cX5_adds 27 = .ok (.aload_n 0, 1) := by decide +kernel
theorem dX5_adds_28 : decode cX5_adds 28 = .ok (.getfield 34, 3) := by decide +kernel
theorem dX5_adds_31 : decode cX5_adds 31 = .ok (.iload_n 1, 1) := by decide +kernel
theorem dX5_adds_32 : decode cX5_adds 32 = .ok (.aload_n 0, 1) := by decide +kernel
theorem dX5_adds_33 : decode cX5_adds 33 = .ok (.iload_n 1, 1) := by decide +kernel
theorem dX5_adds_34 : decode cX5_adds 34 = .ok (.invokevirtual 137, 3) := by decide +kernel
theorem dX5_adds_37 : decode cX5_adds 37 = .ok (.bastore, 1) := by decide +kernel
theorem dX5_adds_38 : decode cX5_adds 38 = .ok (.aload_n 0, 1) := by decide +kernel
theorem dX5_adds_39 : decode cX5_adds 39 = .ok (.getfield 34, 3) := by decide +kernel
theorem dX5_adds_42 : decode cX5_adds 42 = .ok (.iload_n 1, 1) := by decide +kernel
theorem dX5_adds_43 : decode cX5_adds 43 = .ok (.baload, 1) := by decide +kernel
theorem dX5_adds_44 : decode cX5_adds 44 = .ok (.ireturn, 1) := by decide +kernel
theorem dX5_isSo_0 : decode cX5_isSo 0 = .ok (.aload_n 0, 1) := by decide +kernel
theorem dX5_isSo_1 : decode cX5_isSo 1 = .ok (.iload_n 1, 1) := by decide +kernel
theorem dX5_isSo_2 : decode cX5_isSo 2 = .ok (.invokevirtual 153, 3) := by decide +kernel
theorem dX5_isSo_5 : decode cX5_isSo 5 = .ok (.istore 4, 2) := by decide +kernel
theorem dX5_isSo_7 : decode cX5_isSo 7 = .ok (.iconst 1, 1) := by decide +kernel
theorem dX5_isSo_8 : decode cX5_isSo 8 = .ok (.aload_n 0, 1) := by decide +kernel
theorem dX5_isSo_9 : decode cX5_isSo 9 = .ok (.getfield 81, 3) := by decide +kernel
theorem dX5_isSo_12 : decode cX5_isSo 12 = .ok (.ishl, 1) := by decide +kernel
theorem dX5_isSo_13 : decode cX5_isSo 13 = .ok (.iconst 1, 1) := by decide +kernel
theorem dX5_isSo_14 : decode cX5_isSo 14 = .ok (.isub, 1) := by decide +kernel
theorem dX5_isSo_15 : decode cX5_isSo 15 = .ok (.istore 5, 2) := by decide +kernel
theorem dX5_isSo_17 : decode cX5_isSo 17 = .ok (.iload_n 2, 1) := by decide +kernel
theorem dX5_isSo_18 : decode cX5_isSo 18 = .ok (.iload 5, 2) := by decide +kernel
theorem dX5_isSo_20 : decode cX5_isSo 20 = .ok (.iand, 1) := by decide +kernel
theorem dX5_isSo_21 : decode cX5_isSo 21 = .ok (.iload 4, 2) := by decide +kernel
theorem dX5_isSo_23 : decode cX5_isSo 23 = .ok (.iconst (-1), 1) := by decide +kernel
theorem dX5_isSo_24 : decode cX5_isSo 24 = .ok (.ixor, 1) := by decide +kernel
theorem dX5_isSo_25 : decode cX5_isSo 25 = .ok (.iand, 1) := by decide +kernel
theorem dX5_isSo_26 : decode cX5_isSo 26 = .ok (.ifCond .ne 14, 3) := by decide +kernel
theorem dX5_isSo_29 : decode cX5_isSo 29 = .ok (.iload_n 3, 1) := by decide +kernel
theorem dX5_isSo_30 : decode cX5_isSo 30 = .ok (.iload 4, 2) := by decide +kernel
theorem dX5_isSo_32 : decode cX5_isSo 32 = .ok (.iand, 1) := by decide +kernel
theorem dX5_isSo_33 : decode cX5_isSo 33 = .ok (.ifCond .ne 7, 3) := by decide +kernel
theorem dX5_isSo_36 : decode cX5_isSo 36 = .ok (.iconst 1, 1) := by decide +kernel
theorem dX5_isSo_37 : decode cX5_isSo 37 = .ok (.goto 4, 3) := by decide +kernel
theorem dX5_isSo_40 : decode cX5_isSo 40 = .ok (.iconst 0, 1) := by decide +kernel
theorem dX5_isSo_41 : decode cX5_isSo 41 = .ok (.ireturn, 1) := by decide +kernel
theorem dX5_canBe_0 : decode cX5_canBe 0 = .ok (.iconst 0, 1) := by decide +kernel
theorem dX5_canBe_1 : decode cX5_canBe 1 = .ok (.istore 4, 2) := by decide +kernel
theorem dX5_canBe_3 : decode cX5_canBe 3 = .ok (.iconst 0, 1) := by decide +kernel
theorem dX5_canBe_4 : decode cX5_canBe 4 = .ok (.istore 5, 2) := by decide +kernel
theorem dX5_canBe_6 : decode cX5_canBe 6 = .ok (.iload 5, 2) := by decide +kernel
theorem dX5_canBe_8 : decode cX5_canBe 8 = .ok (.sipush 144, 3) := by decide +kernel
theorem dX5_canBe_11 : decode cX5_canBe 11 = .ok (.if_icmp .ge 43, 3) := by decide +kernel
theorem dX5_canBe_14 : decode cX5_canBe 14 = .ok (.iload 4, 2) := by decide +kernel
theorem dX5_canBe_16 : decode cX5_canBe 16 = .ok (.ifCond .ne 38, 3) := by decide +kernel
theorem dX5_canBe_19 : decode cX5_canBe 19 = .ok (.aload_n 0, 1) := by decide +kernel
theorem dX5_canBe_20 : decode cX5_canBe 20 = .ok (.iload_n 1, 1) := by decide +kernel
theorem dX5_canBe_21 : decode cX5_canBe 21 = .ok (.iload 5, 2) := by decide +kernel
theorem dX5_canBe_23 : decode cX5_canBe 23 = .ok (.invokevirtual 174, 3) := by decide +kernel
theorem dX5_canBe_26 : decode cX5_canBe 26 = .ok (.ifCond .eq 19, 3) := by decide +kernel
theorem dX5_canBe_29 : decode cX5_canBe 29 = .ok (.aload_n 0, 1) := by decide +kernel
theorem dX5_canBe_30 : decode cX5_canBe 30 = .ok (.iload_n 1, 1) := by decide +kernel
theorem dX5_canBe_31 : decode cX5_canBe 31 = .ok (.iconst 1, 1) := by decide +kernel
theorem dX5_canBe_32 : decode cX5_canBe 32 = .ok (.iadd, 1) := by decide +kernel
theorem dX5_canBe_33 : decode cX5_canBe 33 = .ok (.iload_n 2, 1) := by decide +kernel
theorem dX5_canBe_34 : decode cX5_canBe 34 = .ok (.iload_n 3, 1) := by decide +kernel
theorem dX5_canBe_35 : decode cX5_canBe 35 = .ok (.invokevirtual 177, 3) := by decide +kernel
theorem dX5_canBe_38 : decode cX5_canBe 38 = .ok (.ifCond .eq 7, 3) := by decide +kernel
theorem dX5_canBe_41 : decode cX5_canBe 41 = .ok (.iconst 1, 1) := by decide +kernel
theorem dX5_canBe_42 : decode cX5_canBe 42 = .ok (.goto 4, 3) := by decide +kernel
theorem dX5_canBe_45 : decode cX5_canBe 45 = .ok (.iconst 0, 1) := by decide +kernel
theorem dX5_canBe_46 : decode cX5_canBe 46 = .ok (.istore 4, 2) := by decide +kernel
theorem dX5_canBe_48 : decode cX5_canBe 48 = .ok (.iinc 5 1, 3) := by decide +kernel
theorem dX5_canBe_51 : decode cX5_canBe 51 = .ok (.goto (-45), 3) := by decide +kernel
theorem dX5_canBe_54 : decode cX5_canBe 54 = .ok (.iload 4, 2) := by decide +kernel
theorem dX5_canBe_56 : decode cX5_canBe 56 = .ok (.ireturn, 1) := by decide +kernel
theorem dX5_fewestOf_0 : decode cX5_fewestOf 0 = .ok (.aload_n 0, 1) := by decide +kernel
theorem dX5_fewestOf_1 : decode cX5_fewestOf 1 = .ok (.aload_n 0, 1) := by decide +kernel
theorem dX5_fewestOf_2 : decode cX5_fewestOf 2 = .ok (.getfield 108, 3) := by decide +kernel
theorem dX5_fewestOf_5 : decode cX5_fewestOf 5 = .ok (.iconst (-1), 1) := by decide +kernel
theorem dX5_fewestOf_6 : decode cX5_fewestOf 6 = .ok (.invokevirtual 140, 3) := by decide +kernel
theorem dX5_fewestOf_9 : decode cX5_fewestOf 9 = .ok (.aload_n 0, 1) := by decide +kernel
theorem dX5_fewestOf_10 : decode cX5_fewestOf 10 = .ok (.aload_n 0, 1) := by decide +kernel
theorem dX5_fewestOf_11 : decode cX5_fewestOf 11 = .ok (.getfield 108, 3) := by decide +kernel
theorem dX5_fewestOf_14 : decode cX5_fewestOf 14 = .ok (.iload_n 1, 1) := by decide +kernel
theorem dX5_fewestOf_15 : decode cX5_fewestOf 15 = .ok (.iload_n 2, 1) := by decide +kernel
theorem dX5_fewestOf_16 : decode cX5_fewestOf 16 = .ok (.invokevirtual 177, 3) := by decide +kernel
theorem dX5_fewestOf_19 : decode cX5_fewestOf 19 = .ok (.ifCond .eq 14, 3) := by decide +kernel
theorem dX5_fewestOf_22 : decode cX5_fewestOf 22 = .ok (.iload 4, 2) := by decide +kernel
theorem dX5_fewestOf_24 : decode cX5_fewestOf 24 = .ok (.ifCond .ne 7, 3) := by decide +kernel
theorem dX5_fewestOf_27 : decode cX5_fewestOf 27 = .ok (.iconst 0, 1) := by decide +kernel
theorem dX5_fewestOf_28 : decode cX5_fewestOf 28 = .ok (.goto 4, 3) := by decide +kernel
theorem dX5_fewestOf_31 : decode cX5_fewestOf 31 = .ok (.iconst (-1), 1) := by decide +kernel
theorem dX5_fewestOf_32 : decode cX5_fewestOf 32 = .ok (.ireturn, 1) := by decide +kernel
theorem dX5_fewestOf_33 : decode cX5_fewestOf 33 = .ok (.iconst 1, 1) := by decide +kernel
theorem dX5_fewestOf_34 : decode cX5_fewestOf 34 = .ok (.istore 5, 2) := by decide +kernel
theorem dX5_fewestOf_36 : decode cX5_fewestOf 36 = .ok (.iload 5, 2) := by decide +kernel
theorem dX5_fewestOf_38 : decode cX5_fewestOf 38 = .ok (.iload_n 3, 1) := by decide +kernel
theorem dX5_fewestOf_39 : decode cX5_fewestOf 39 = .ok (.if_icmp .gt 91, 3) := by decide +kernel
theorem dX5_fewestOf_42 : decode cX5_fewestOf 42 = .ok (.iconst 0, 1) := by decide +kernel
theorem dX5_fewestOf_43 : decode cX5_fewestOf 43 = .ok (.istore 6, 2) := by decide +kernel
theorem dX5_fewestOf_45 : decode cX5_fewestOf 45 = .ok (.iload 6, 2) := by decide +kernel
theorem dX5_fewestOf_47 : decode cX5_fewestOf 47 = .ok (.sipush 144, 3) := by decide +kernel
theorem dX5_fewestOf_50 : decode cX5_fewestOf 50 = .ok (.if_icmp .ge 74, 3) := by decide +kernel
theorem dX5_fewestOf_53 : decode cX5_fewestOf 53 = .ok (.aload_n 0, 1) := by decide +kernel
theorem dX5_fewestOf_54 : decode cX5_fewestOf 54 = .ok (.aload_n 0, 1) := by decide +kernel
theorem dX5_fewestOf_55 : decode cX5_fewestOf 55 = .ok (.getfield 108, 3) := by decide +kernel
theorem dX5_fewestOf_58 : decode cX5_fewestOf 58 = .ok (.iload 6, 2) := by decide +kernel
theorem dX5_fewestOf_60 : decode cX5_fewestOf 60 = .ok (.invokevirtual 174, 3) := by decide +kernel
theorem dX5_fewestOf_63 : decode cX5_fewestOf 63 = .ok (.ifCond .eq 55, 3) := by decide +kernel
theorem dX5_fewestOf_66 : decode cX5_fewestOf 66 = .ok (.iload 5, 2) := by decide +kernel
theorem dX5_fewestOf_68 : decode cX5_fewestOf 68 = .ok (.iconst 1, 1) := by decide +kernel
theorem dX5_fewestOf_69 : decode cX5_fewestOf 69 = .ok (.if_icmp .ne 21, 3) := by decide +kernel
theorem dX5_fewestOf_72 : decode cX5_fewestOf 72 = .ok (.aload_n 0, 1) := by decide +kernel
theorem dX5_fewestOf_73 : decode cX5_fewestOf 73 = .ok (.aload_n 0, 1) := by decide +kernel
theorem dX5_fewestOf_74 : decode cX5_fewestOf 74 = .ok (.getfield 108, 3) := by decide +kernel
theorem dX5_fewestOf_77 : decode cX5_fewestOf 77 = .ok (.iconst 1, 1) := by decide +kernel
theorem dX5_fewestOf_78 : decode cX5_fewestOf 78 = .ok (.iadd, 1) := by decide +kernel
theorem dX5_fewestOf_79 : decode cX5_fewestOf 79 = .ok (.iload_n 1, 1) := by decide +kernel
theorem dX5_fewestOf_80 : decode cX5_fewestOf 80 = .ok (.iload_n 2, 1) := by decide +kernel
theorem dX5_fewestOf_81 : decode cX5_fewestOf 81 = .ok (.invokevirtual 177, 3) := by decide +kernel
theorem dX5_fewestOf_84 : decode cX5_fewestOf 84 = .ok (.ifCond .eq 34, 3) := by decide +kernel
theorem dX5_fewestOf_87 : decode cX5_fewestOf 87 = .ok (.goto 18, 3) := by decide +kernel
theorem dX5_fewestOf_90 : decode cX5_fewestOf 90 = .ok (.aload_n 0, 1) := by decide +kernel
theorem dX5_fewestOf_91 : decode cX5_fewestOf 91 = .ok (.aload_n 0, 1) := by decide +kernel
theorem dX5_fewestOf_92 : decode cX5_fewestOf 92 = .ok (.getfield 108, 3) := by decide +kernel
theorem dX5_fewestOf_95 : decode cX5_fewestOf 95 = .ok (.iconst 1, 1) := by decide +kernel
theorem dX5_fewestOf_96 : decode cX5_fewestOf 96 = .ok (.iadd, 1) := by decide +kernel
theorem dX5_fewestOf_97 : decode cX5_fewestOf 97 = .ok (.iload_n 1, 1) := by decide +kernel
theorem dX5_fewestOf_98 : decode cX5_fewestOf 98 = .ok (.iload_n 2, 1) := by decide +kernel
theorem dX5_fewestOf_99 : decode cX5_fewestOf 99 = .ok (.invokevirtual 181, 3) := by decide +kernel
theorem dX5_fewestOf_102 : decode cX5_fewestOf 102 = .ok (.ifCond .eq 16, 3) := by decide +kernel
theorem dX5_fewestOf_105 : decode cX5_fewestOf 105 = .ok (.iload 4, 2) := by decide +kernel
theorem dX5_fewestOf_107 : decode cX5_fewestOf 107 = .ok (.ifCond .ne 8, 3) := by decide +kernel
theorem dX5_fewestOf_110 : decode cX5_fewestOf 110 = .ok (.iload 5, 2) := by decide +kernel
theorem dX5_fewestOf_112 : decode cX5_fewestOf 112 = .ok (.goto 5, 3) := by decide +kernel
theorem dX5_fewestOf_115 : decode cX5_fewestOf 115 = .ok (.iload 6, 2) := by decide +kernel
theorem dX5_fewestOf_117 : decode cX5_fewestOf 117 = .ok (.ireturn, 1) := by decide +kernel
theorem dX5_fewestOf_118 : decode cX5_fewestOf 118 = .ok (.iinc 6 1, 3) := by decide +kernel
theorem dX5_fewestOf_121 : decode cX5_fewestOf 121 = .ok (.goto (-76), 3) := by decide +kernel
theorem dX5_fewestOf_124 : decode cX5_fewestOf 124 = .ok (.iinc 5 1, 3) := by decide +kernel
theorem dX5_fewestOf_127 : decode cX5_fewestOf 127 = .ok (.goto (-91), 3) := by decide +kernel
theorem dX5_fewestOf_130 : decode cX5_fewestOf 130 = .ok (.iconst (-1), 1) := by decide +kernel
theorem dX5_fewestOf_131 : decode cX5_fewestOf 131 = .ok (.ireturn, 1) := by decide +kernel
theorem dX5_fewest_0 : decode cX5_fewest 0 = .ok (.aload_n 0, 1) := by decide +kernel
theorem dX5_fewest_1 : decode cX5_fewest 1 = .ok (.invokevirtual 100, 3) := by decide +kernel
theorem dX5_fewest_4 : decode cX5_fewest 4 = .ok (.pop, 1) := by decide +kernel
theorem dX5_fewest_5 : decode cX5_fewest 5 = .ok (.iload_n 1, 1) := by decide +kernel
theorem dX5_fewest_6 : decode cX5_fewest 6 = .ok (.i2l, 1) := by decide +kernel
theorem dX5_fewest_7 : decode cX5_fewest 7 = .ok (.lconst 0, 1) := by decide +kernel
theorem dX5_fewest_8 : decode cX5_fewest 8 = .ok (.ldc2_w 184, 3) := by decide +kernel
theorem dX5_fewest_11 : decode cX5_fewest 11 = .ok (.invokestatic 44, 3) := by decide +kernel
theorem dX5_fewest_14 : decode cX5_fewest 14 = .ok (.ifCond .eq 37, 3) := by decide +kernel
theorem dX5_fewest_17 : decode cX5_fewest 17 = .ok (.iload_n 2, 1) := by decide +kernel
theorem dX5_fewest_18 : decode cX5_fewest 18 = .ok (.i2l, 1) := by decide +kernel
theorem dX5_fewest_19 : decode cX5_fewest 19 = .ok (.lconst 0, 1) := by decide +kernel
theorem dX5_fewest_20 : decode cX5_fewest 20 = .ok (.ldc2_w 184, 3) := by decide +kernel
theorem dX5_fewest_23 : decode cX5_fewest 23 = .ok (.invokestatic 44, 3) := by decide +kernel
theorem dX5_fewest_26 : decode cX5_fewest 26 = .ok (.ifCond .eq 25, 3) := by decide +kernel
theorem dX5_fewest_29 : decode cX5_fewest 29 = .ok (.iload_n 1, 1) := by decide +kernel
theorem dX5_fewest_30 : decode cX5_fewest 30 = .ok (.iload_n 2, 1) := by decide +kernel
theorem dX5_fewest_31 : decode cX5_fewest 31 = .ok (.iand, 1) := by decide +kernel
theorem dX5_fewest_32 : decode cX5_fewest 32 = .ok (.ifCond .ne 19, 3) := by decide +kernel
theorem dX5_fewest_35 : decode cX5_fewest 35 = .ok (.iload_n 3, 1) := by decide +kernel
theorem dX5_fewest_36 : decode cX5_fewest 36 = .ok (.i2l, 1) := by decide +kernel
theorem dX5_fewest_37 : decode cX5_fewest 37 = .ok (.lconst 0, 1) := by decide +kernel
theorem dX5_fewest_38 : decode cX5_fewest 38 = .ok (.ldc2_w 58, 3) := by decide +kernel
theorem dX5_fewest_41 : decode cX5_fewest 41 = .ok (.invokestatic 44, 3) := by decide +kernel
theorem dX5_fewest_44 : decode cX5_fewest 44 = .ok (.ifCond .eq 7, 3) := by decide +kernel
theorem dX5_fewest_47 : decode cX5_fewest 47 = .ok (.iconst 1, 1) := by decide +kernel
theorem dX5_fewest_48 : decode cX5_fewest 48 = .ok (.goto 4, 3) := by decide +kernel
theorem dX5_fewest_51 : decode cX5_fewest 51 = .ok (.iconst 0, 1) := by decide +kernel
theorem dX5_fewest_52 : decode cX5_fewest 52 = .ok (.istore 5, 2) := by decide +kernel
theorem dX5_fewest_54 : decode cX5_fewest 54 = .ok (.iload 5, 2) := by decide +kernel
theorem dX5_fewest_56 : decode cX5_fewest 56 = .ok (.ifCond .eq 23, 3) := by decide +kernel
theorem dX5_fewest_59 : decode cX5_fewest 59 = .ok (.iload 4, 2) := by decide +kernel
theorem dX5_fewest_61 : decode cX5_fewest 61 = .ok (.invokestatic 156, 3) := by decide +kernel
theorem dX5_fewest_64 : decode cX5_fewest 64 = .ok (.ifCond .eq 15, 3) := by decide +kernel
theorem dX5_fewest_67 : decode cX5_fewest 67 = .ok (.aload_n 0, 1) := by decide +kernel
theorem dX5_fewest_68 : decode cX5_fewest 68 = .ok (.iload_n 1, 1) := by decide +kernel
theorem dX5_fewest_69 : decode cX5_fewest 69 = .ok (.iload_n 2, 1) := by decide +kernel
theorem dX5_fewest_70 : decode cX5_fewest 70 = .ok (.iload_n 3, 1) := by decide +kernel
theorem dX5_fewest_71 : decode cX5_fewest 71 = .ok (.iload 4, 2) := by decide +kernel
theorem dX5_fewest_73 : decode cX5_fewest 73 = .ok (.invokevirtual 186, 3) := by decide +kernel
theorem dX5_fewest_76 : decode cX5_fewest 76 = .ok (.goto 5, 3) := by decide +kernel
theorem dX5_fewest_79 : decode cX5_fewest 79 = .ok (.bipush (-2), 2) := by decide +kernel
theorem dX5_fewest_81 : decode cX5_fewest 81 = .ok (.ireturn, 1) := by decide +kernel
theorem dX5_afterAny_0 : decode cX5_afterAny 0 = .ok (.iload_n 2, 1) := by decide +kernel
theorem dX5_afterAny_1 : decode cX5_afterAny 1 = .ok (.istore_n 3, 1) := by decide +kernel
theorem dX5_afterAny_2 : decode cX5_afterAny 2 = .ok (.iconst 0, 1) := by decide +kernel
theorem dX5_afterAny_3 : decode cX5_afterAny 3 = .ok (.istore 4, 2) := by decide +kernel
theorem dX5_afterAny_5 : decode cX5_afterAny 5 = .ok (.iload 4, 2) := by decide +kernel
theorem dX5_afterAny_7 : decode cX5_afterAny 7 = .ok (.sipush 144, 3) := by decide +kernel
theorem dX5_afterAny_10 : decode cX5_afterAny 10 = .ok (.if_icmp .ge 35, 3) := by decide +kernel
theorem dX5_afterAny_13 : decode cX5_afterAny 13 = .ok (.iload_n 3, 1) := by decide +kernel
theorem dX5_afterAny_14 : decode cX5_afterAny 14 = .ok (.aload_n 0, 1) := by decide +kernel
theorem dX5_afterAny_15 : decode cX5_afterAny 15 = .ok (.iload_n 1, 1) := by decide +kernel
theorem dX5_afterAny_16 : decode cX5_afterAny 16 = .ok (.iload 4, 2) := by decide +kernel
theorem dX5_afterAny_18 : decode cX5_afterAny 18 = .ok (.invokevirtual 174, 3) := by decide +kernel
theorem dX5_afterAny_21 : decode cX5_afterAny 21 = .ok (.ifCond .eq 13, 3) := by decide +kernel
theorem dX5_afterAny_24 : decode cX5_afterAny 24 = .ok (.aload_n 0, 1) := by decide +kernel
theorem dX5_afterAny_25 : decode cX5_afterAny 25 = .ok (.iload_n 1, 1) := by decide +kernel
theorem dX5_afterAny_26 : decode cX5_afterAny 26 = .ok (.iconst 1, 1) := by decide +kernel
theorem dX5_afterAny_27 : decode cX5_afterAny 27 = .ok (.iadd, 1) := by decide +kernel
theorem dX5_afterAny_28 : decode cX5_afterAny 28 = .ok (.invokevirtual 153, 3) := by decide +kernel
theorem dX5_afterAny_31 : decode cX5_afterAny 31 = .ok (.goto 6, 3) := by decide +kernel
theorem dX5_afterAny_34 : decode cX5_afterAny 34 = .ok (.sipush 4095, 3) := by decide +kernel
theorem dX5_afterAny_37 : decode cX5_afterAny 37 = .ok (.iand, 1) := by decide +kernel
theorem dX5_afterAny_38 : decode cX5_afterAny 38 = .ok (.istore_n 3, 1) := by decide +kernel
theorem dX5_afterAny_39 : decode cX5_afterAny 39 = .ok (.iinc 4 1, 3) := by decide +kernel
theorem dX5_afterAny_42 : decode cX5_afterAny 42 = .ok (.goto (-37), 3) := by decide +kernel
theorem dX5_afterAny_45 : decode cX5_afterAny 45 = .ok (.iload_n 3, 1) := by decide +kernel
theorem dX5_afterAny_46 : decode cX5_afterAny 46 = .ok (.ireturn, 1) := by decide +kernel
theorem dX5_safeOf_0 : decode cX5_safeOf 0 = .ok (.aload_n 0, 1) := by decide +kernel
theorem dX5_safeOf_1 : decode cX5_safeOf 1 = .ok (.aload_n 0, 1) := by decide +kernel
theorem dX5_safeOf_2 : decode cX5_safeOf 2 = .ok (.getfield 108, 3) := by decide +kernel
theorem dX5_safeOf_5 : decode cX5_safeOf 5 = .ok (.iconst 0, 1) := by decide +kernel
theorem dX5_safeOf_6 : decode cX5_safeOf 6 = .ok (.invokevirtual 159, 3) := by decide +kernel
theorem dX5_safeOf_9 : decode cX5_safeOf 9 = .ok (.istore_n 2, 1) := by decide +kernel
theorem dX5_safeOf_10 : decode cX5_safeOf 10 = .ok (.iload_n 1, 1) := by decide +kernel
theorem dX5_safeOf_11 : decode cX5_safeOf 11 = .ok (.ifCond .le 13, 3) := by decide +kernel
theorem dX5_safeOf_14 : decode cX5_safeOf 14 = .ok (.aload_n 0, 1) := by decide +kernel
theorem dX5_safeOf_15 : decode cX5_safeOf 15 = .ok (.aload_n 0, 1) := by decide +kernel
theorem dX5_safeOf_16 : decode cX5_safeOf 16 = .ok (.getfield 108, 3) := by decide +kernel
theorem dX5_safeOf_19 : decode cX5_safeOf 19 = .ok (.iload_n 2, 1) := by decide +kernel
theorem dX5_safeOf_20 : decode cX5_safeOf 20 = .ok (.invokevirtual 190, 3) := by decide +kernel
theorem dX5_safeOf_23 : decode cX5_safeOf 23 = .ok (.istore_n 2, 1) := by decide +kernel
theorem dX5_safeOf_24 : decode cX5_safeOf 24 = .ok (.iconst 0, 1) := by decide +kernel
theorem dX5_safeOf_25 : decode cX5_safeOf 25 = .ok (.istore_n 3, 1) := by decide +kernel
theorem dX5_safeOf_26 : decode cX5_safeOf 26 = .ok (.iload_n 3, 1) := by decide +kernel
theorem dX5_safeOf_27 : decode cX5_safeOf 27 = .ok (.sipush 144, 3) := by decide +kernel
theorem dX5_safeOf_30 : decode cX5_safeOf 30 = .ok (.if_icmp .ge 38, 3) := by decide +kernel
theorem dX5_safeOf_33 : decode cX5_safeOf 33 = .ok (.iload_n 1, 1) := by decide +kernel
theorem dX5_safeOf_34 : decode cX5_safeOf 34 = .ok (.iconst 1, 1) := by decide +kernel
theorem dX5_safeOf_35 : decode cX5_safeOf 35 = .ok (.if_icmp .le 33, 3) := by decide +kernel
theorem dX5_safeOf_38 : decode cX5_safeOf 38 = .ok (.aload_n 0, 1) := by decide +kernel
theorem dX5_safeOf_39 : decode cX5_safeOf 39 = .ok (.aload_n 0, 1) := by decide +kernel
theorem dX5_safeOf_40 : decode cX5_safeOf 40 = .ok (.getfield 108, 3) := by decide +kernel
theorem dX5_safeOf_43 : decode cX5_safeOf 43 = .ok (.iload_n 3, 1) := by decide +kernel
theorem dX5_safeOf_44 : decode cX5_safeOf 44 = .ok (.invokevirtual 174, 3) := by decide +kernel
theorem dX5_safeOf_47 : decode cX5_safeOf 47 = .ok (.ifCond .eq 15, 3) := by decide +kernel
theorem dX5_safeOf_50 : decode cX5_safeOf 50 = .ok (.aload_n 0, 1) := by decide +kernel
theorem dX5_safeOf_51 : decode cX5_safeOf 51 = .ok (.aload_n 0, 1) := by decide +kernel
theorem dX5_safeOf_52 : decode cX5_safeOf 52 = .ok (.getfield 108, 3) := by decide +kernel
theorem dX5_safeOf_55 : decode cX5_safeOf 55 = .ok (.iconst 1, 1) := by decide +kernel
theorem dX5_safeOf_56 : decode cX5_safeOf 56 = .ok (.iadd, 1) := by decide +kernel
theorem dX5_safeOf_57 : decode cX5_safeOf 57 = .ok (.iload_n 2, 1) := by decide +kernel
theorem dX5_safeOf_58 : decode cX5_safeOf 58 = .ok (.invokevirtual 190, 3) := by decide +kernel
theorem dX5_safeOf_61 : decode cX5_safeOf 61 = .ok (.istore_n 2, 1) := by decide +kernel
theorem dX5_safeOf_62 : decode cX5_safeOf 62 = .ok (.iinc 3 1, 3) := by decide +kernel
theorem dX5_safeOf_65 : decode cX5_safeOf 65 = .ok (.goto (-39), 3) := by decide +kernel
theorem dX5_safeOf_68 : decode cX5_safeOf 68 = .ok (.iload_n 2, 1) := by decide +kernel
theorem dX5_safeOf_69 : decode cX5_safeOf 69 = .ok (.ireturn, 1) := by decide +kernel
theorem dX5_safe_0 : decode cX5_safe 0 = .ok (.aload_n 0, 1) := by decide +kernel
theorem dX5_safe_1 : decode cX5_safe 1 = .ok (.invokevirtual 100, 3) := by decide +kernel
theorem dX5_safe_4 : decode cX5_safe 4 = .ok (.pop, 1) := by decide +kernel
theorem dX5_safe_5 : decode cX5_safe 5 = .ok (.iload_n 1, 1) := by decide +kernel
theorem dX5_safe_6 : decode cX5_safe 6 = .ok (.i2l, 1) := by decide +kernel
theorem dX5_safe_7 : decode cX5_safe 7 = .ok (.lconst 0, 1) := by decide +kernel
theorem dX5_safe_8 : decode cX5_safe 8 = .ok (.ldc2_w 58, 3) := by decide +kernel
theorem dX5_safe_11 : decode cX5_safe 11 = .ok (.invokestatic 44, 3) := by decide +kernel
theorem dX5_safe_14 : decode cX5_safe 14 = .ok (.ifCond .eq 11, 3) := by decide +kernel
theorem dX5_safe_17 : decode cX5_safe 17 = .ok (.aload_n 0, 1) := by decide +kernel
theorem dX5_safe_18 : decode cX5_safe 18 = .ok (.iload_n 1, 1) := by decide +kernel
theorem dX5_safe_19 : decode cX5_safe 19 = .ok (.invokevirtual 193, 3) := by decide +kernel
theorem dX5_safe_22 : decode cX5_safe 22 = .ok (.goto 5, 3) := by decide +kernel
theorem dX5_safe_25 : decode cX5_safe 25 = .ok (.bipush (-2), 2) := by decide +kernel
theorem dX5_safe_27 : decode cX5_safe 27 = .ok (.ireturn, 1) := by decide +kernel
theorem dX5_worthOf_0 : decode cX5_worthOf 0 = .ok (.iconst 0, 1) := by decide +kernel
theorem dX5_worthOf_1 : decode cX5_worthOf 1 = .ok (.istore_n 3, 1) := by decide +kernel
theorem dX5_worthOf_2 : decode cX5_worthOf 2 = .ok (.iconst 0, 1) := by decide +kernel
theorem dX5_worthOf_3 : decode cX5_worthOf 3 = .ok (.istore 4, 2) := by decide +kernel
theorem dX5_worthOf_5 : decode cX5_worthOf 5 = .ok (.iload 4, 2) := by decide +kernel
theorem dX5_worthOf_7 : decode cX5_worthOf 7 = .ok (.bipush 12, 2) := by decide +kernel
theorem dX5_worthOf_9 : decode cX5_worthOf 9 = .ok (.if_icmp .ge 37, 3) := by decide +kernel
theorem dX5_worthOf_12 : decode cX5_worthOf 12 = .ok (.iload_n 3, 1) := by decide +kernel
theorem dX5_worthOf_13 : decode cX5_worthOf 13 = .ok (.iload_n 2, 1) := by decide +kernel
theorem dX5_worthOf_14 : decode cX5_worthOf 14 = .ok (.iload 4, 2) := by decide +kernel
theorem dX5_worthOf_16 : decode cX5_worthOf 16 = .ok (.invokestatic 127, 3) := by decide +kernel
theorem dX5_worthOf_19 : decode cX5_worthOf 19 = .ok (.ifCond .eq 18, 3) := by decide +kernel
theorem dX5_worthOf_22 : decode cX5_worthOf 22 = .ok (.aload_n 0, 1) := by decide +kernel
theorem dX5_worthOf_23 : decode cX5_worthOf 23 = .ok (.getfield 31, 3) := by decide +kernel
theorem dX5_worthOf_26 : decode cX5_worthOf 26 = .ok (.bipush 12, 2) := by decide +kernel
theorem dX5_worthOf_28 : decode cX5_worthOf 28 = .ok (.iload_n 1, 1) := by decide +kernel
theorem dX5_worthOf_29 : decode cX5_worthOf 29 = .ok (.imul, 1) := by decide +kernel
theorem dX5_worthOf_30 : decode cX5_worthOf 30 = .ok (.iload 4, 2) := by decide +kernel
theorem dX5_worthOf_32 : decode cX5_worthOf 32 = .ok (.iadd, 1) := by decide +kernel
theorem dX5_worthOf_33 : decode cX5_worthOf 33 = .ok (.iaload, 1) := by decide +kernel
theorem dX5_worthOf_34 : decode cX5_worthOf 34 = .ok (.goto 4, 3) := by decide +kernel
theorem dX5_worthOf_37 : decode cX5_worthOf 37 = .ok (.iconst 0, 1) := by decide +kernel
theorem dX5_worthOf_38 : decode cX5_worthOf 38 = .ok (.iadd, 1) := by decide +kernel
theorem dX5_worthOf_39 : decode cX5_worthOf 39 = .ok (.istore_n 3, 1) := by decide +kernel
theorem dX5_worthOf_40 : decode cX5_worthOf 40 = .ok (.iinc 4 1, 3) := by decide +kernel
theorem dX5_worthOf_43 : decode cX5_worthOf 43 = .ok (.goto (-38), 3) := by decide +kernel
theorem dX5_worthOf_46 : decode cX5_worthOf 46 = .ok (.iload_n 3, 1) := by decide +kernel
theorem dX5_worthOf_47 : decode cX5_worthOf 47 = .ok (.ireturn, 1) := by decide +kernel
theorem dX5_answers_0 : decode cX5_answers 0 = .ok (.aload_n 0, 1) := by decide +kernel
theorem dX5_answers_1 : decode cX5_answers 1 = .ok (.iload_n 1, 1) := by decide +kernel
theorem dX5_answers_2 : decode cX5_answers 2 = .ok (.iconst (-1), 1) := by decide +kernel
theorem dX5_answers_3 : decode cX5_answers 3 = .ok (.invokevirtual 140, 3) := by decide +kernel
theorem dX5_answers_6 : decode cX5_answers 6 = .ok (.aload_n 0, 1) := by decide +kernel
theorem dX5_answers_7 : decode cX5_answers 7 = .ok (.aload_n 0, 1) := by decide +kernel
theorem dX5_answers_8 : decode cX5_answers 8 = .ok (.iload_n 1, 1) := by decide +kernel
theorem dX5_answers_9 : decode cX5_answers 9 = .ok (.invokevirtual 153, 3) := by decide +kernel
theorem dX5_answers_12 : decode cX5_answers 12 = .ok (.putfield 196, 3) := by decide +kernel
theorem dX5_answers_15 : decode cX5_answers 15 = .ok (.aload_n 0, 1) := by decide +kernel
theorem dX5_answers_16 : decode cX5_answers 16 = .ok (.iconst (-1), 1) := by decide +kernel
theorem dX5_answers_17 : decode cX5_answers 17 = .ok (.putfield 199, 3) := by decide +kernel
theorem dX5_answers_20 : decode cX5_answers 20 = .ok (.iconst 0, 1) := by decide +kernel
theorem dX5_answers_21 : decode cX5_answers 21 = .ok (.istore_n 3, 1) := by decide +kernel
theorem dX5_answers_22 : decode cX5_answers 22 = .ok (.iload_n 3, 1) := by decide +kernel
theorem dX5_answers_23 : decode cX5_answers 23 = .ok (.bipush 24, 2) := by decide +kernel
theorem dX5_answers_25 : decode cX5_answers 25 = .ok (.if_icmp .ge 62, 3) := by decide +kernel
theorem dX5_answers_28 : decode cX5_answers 28 = .ok (.aload_n 0, 1) := by decide +kernel
theorem dX5_answers_29 : decode cX5_answers 29 = .ok (.iload_n 1, 1) := by decide +kernel
theorem dX5_answers_30 : decode cX5_answers 30 = .ok (.bipush 24, 2) := by decide +kernel
theorem dX5_answers_32 : decode cX5_answers 32 = .ok (.iload_n 2, 1) := by decide +kernel
theorem dX5_answers_33 : decode cX5_answers 33 = .ok (.imul, 1) := by decide +kernel
theorem dX5_answers_34 : decode cX5_answers 34 = .ok (.iload_n 3, 1) := by decide +kernel
theorem dX5_answers_35 : decode cX5_answers 35 = .ok (.iadd, 1) := by decide +kernel
theorem dX5_answers_36 : decode cX5_answers 36 = .ok (.invokevirtual 174, 3) := by decide +kernel
theorem dX5_answers_39 : decode cX5_answers 39 = .ok (.ifCond .eq 42, 3) := by decide +kernel
theorem dX5_answers_42 : decode cX5_answers 42 = .ok (.aload_n 0, 1) := by decide +kernel
theorem dX5_answers_43 : decode cX5_answers 43 = .ok (.iload_n 1, 1) := by decide +kernel
theorem dX5_answers_44 : decode cX5_answers 44 = .ok (.iconst 1, 1) := by decide +kernel
theorem dX5_answers_45 : decode cX5_answers 45 = .ok (.iadd, 1) := by decide +kernel
theorem dX5_answers_46 : decode cX5_answers 46 = .ok (.invokevirtual 153, 3) := by decide +kernel
theorem dX5_answers_49 : decode cX5_answers 49 = .ok (.istore 4, 2) := by decide +kernel
theorem dX5_answers_51 : decode cX5_answers 51 = .ok (.aload_n 0, 1) := by decide +kernel
theorem dX5_answers_52 : decode cX5_answers 52 = .ok (.iload_n 2, 1) := by decide +kernel
theorem dX5_answers_53 : decode cX5_answers 53 = .ok (.iload 4, 2) := by decide +kernel
theorem dX5_answers_55 : decode cX5_answers 55 = .ok (.invokevirtual 202, 3) := by decide +kernel
theorem dX5_answers_58 : decode cX5_answers 58 = .ok (.aload_n 0, 1) := by decide +kernel
theorem dX5_answers_59 : decode cX5_answers 59 = .ok (.iload_n 2, 1) := by decide +kernel
theorem dX5_answers_60 : decode cX5_answers 60 = .ok (.aload_n 0, 1) := by decide +kernel
theorem dX5_answers_61 : decode cX5_answers 61 = .ok (.getfield 196, 3) := by decide +kernel
theorem dX5_answers_64 : decode cX5_answers 64 = .ok (.invokevirtual 202, 3) := by decide +kernel
theorem dX5_answers_67 : decode cX5_answers 67 = .ok (.if_icmp .le 14, 3) := by decide +kernel
theorem dX5_answers_70 : decode cX5_answers 70 = .ok (.aload_n 0, 1) := by decide +kernel
theorem dX5_answers_71 : decode cX5_answers 71 = .ok (.iload 4, 2) := by decide +kernel
theorem dX5_answers_73 : decode cX5_answers 73 = .ok (.putfield 196, 3) := by decide +kernel
theorem dX5_answers_76 : decode cX5_answers 76 = .ok (.aload_n 0, 1) := by decide +kernel
theorem dX5_answers_77 : decode cX5_answers 77 = .ok (.iload_n 3, 1) := by decide +kernel
theorem dX5_answers_78 : decode cX5_answers 78 = .ok (.putfield 199, 3) := by decide +kernel
theorem dX5_answers_81 : decode cX5_answers 81 = .ok (.iinc 3 1, 3) := by decide +kernel
theorem dX5_answers_84 : decode cX5_answers 84 = .ok (.goto (-62), 3) := by decide +kernel
theorem dX5_answers_87 : decode cX5_answers 87 = .ok (.return_, 1) := by decide +kernel
theorem dX5_lastOf_0 : decode cX5_lastOf 0 = .ok (.aload_n 0, 1) := by decide +kernel
theorem dX5_lastOf_1 : decode cX5_lastOf 1 = .ok (.aload_n 0, 1) := by decide +kernel
theorem dX5_lastOf_2 : decode cX5_lastOf 2 = .ok (.getfield 108, 3) := by decide +kernel
theorem dX5_lastOf_5 : decode cX5_lastOf 5 = .ok (.iload_n 2, 1) := by decide +kernel
theorem dX5_lastOf_6 : decode cX5_lastOf 6 = .ok (.invokevirtual 205, 3) := by decide +kernel
theorem dX5_lastOf_9 : decode cX5_lastOf 9 = .ok (.aload_n 0, 1) := by decide +kernel
theorem dX5_lastOf_10 : decode cX5_lastOf 10 = .ok (.getfield 196, 3) := by decide +kernel
theorem dX5_lastOf_13 : decode cX5_lastOf 13 = .ok (.istore 4, 2) := by decide +kernel
theorem dX5_lastOf_15 : decode cX5_lastOf 15 = .ok (.iconst (-1), 1) := by decide +kernel
theorem dX5_lastOf_16 : decode cX5_lastOf 16 = .ok (.istore 5, 2) := by decide +kernel
theorem dX5_lastOf_18 : decode cX5_lastOf 18 = .ok (.aload_n 0, 1) := by decide +kernel
theorem dX5_lastOf_19 : decode cX5_lastOf 19 = .ok (.getfield 199, 3) := by decide +kernel
theorem dX5_lastOf_22 : decode cX5_lastOf 22 = .ok (.istore 6, 2) := by decide +kernel
theorem dX5_lastOf_24 : decode cX5_lastOf 24 = .ok (.iconst 0, 1) := by decide +kernel
theorem dX5_lastOf_25 : decode cX5_lastOf 25 = .ok (.istore 7, 2) := by decide +kernel
theorem dX5_lastOf_27 : decode cX5_lastOf 27 = .ok (.iload 7, 2) := by decide +kernel
theorem dX5_lastOf_29 : decode cX5_lastOf 29 = .ok (.bipush 24, 2) := by decide +kernel
theorem dX5_lastOf_31 : decode cX5_lastOf 31 = .ok (.if_icmp .ge 73, 3) := by decide +kernel
theorem dX5_lastOf_34 : decode cX5_lastOf 34 = .ok (.aload_n 0, 1) := by decide +kernel
theorem dX5_lastOf_35 : decode cX5_lastOf 35 = .ok (.aload_n 0, 1) := by decide +kernel
theorem dX5_lastOf_36 : decode cX5_lastOf 36 = .ok (.getfield 108, 3) := by decide +kernel
theorem dX5_lastOf_39 : decode cX5_lastOf 39 = .ok (.bipush 24, 2) := by decide +kernel
theorem dX5_lastOf_41 : decode cX5_lastOf 41 = .ok (.iload_n 1, 1) := by decide +kernel
theorem dX5_lastOf_42 : decode cX5_lastOf 42 = .ok (.imul, 1) := by decide +kernel
theorem dX5_lastOf_43 : decode cX5_lastOf 43 = .ok (.iload 7, 2) := by decide +kernel
theorem dX5_lastOf_45 : decode cX5_lastOf 45 = .ok (.iadd, 1) := by decide +kernel
theorem dX5_lastOf_46 : decode cX5_lastOf 46 = .ok (.invokevirtual 174, 3) := by decide +kernel
theorem dX5_lastOf_49 : decode cX5_lastOf 49 = .ok (.ifCond .eq 49, 3) := by decide +kernel
theorem dX5_lastOf_52 : decode cX5_lastOf 52 = .ok (.aload_n 0, 1) := by decide +kernel
theorem dX5_lastOf_53 : decode cX5_lastOf 53 = .ok (.aload_n 0, 1) := by decide +kernel
theorem dX5_lastOf_54 : decode cX5_lastOf 54 = .ok (.getfield 108, 3) := by decide +kernel
theorem dX5_lastOf_57 : decode cX5_lastOf 57 = .ok (.iconst 1, 1) := by decide +kernel
theorem dX5_lastOf_58 : decode cX5_lastOf 58 = .ok (.iadd, 1) := by decide +kernel
theorem dX5_lastOf_59 : decode cX5_lastOf 59 = .ok (.iload_n 2, 1) := by decide +kernel
theorem dX5_lastOf_60 : decode cX5_lastOf 60 = .ok (.invokevirtual 205, 3) := by decide +kernel
theorem dX5_lastOf_63 : decode cX5_lastOf 63 = .ok (.aload_n 0, 1) := by decide +kernel
theorem dX5_lastOf_64 : decode cX5_lastOf 64 = .ok (.iload_n 1, 1) := by decide +kernel
theorem dX5_lastOf_65 : decode cX5_lastOf 65 = .ok (.aload_n 0, 1) := by decide +kernel
theorem dX5_lastOf_66 : decode cX5_lastOf 66 = .ok (.getfield 196, 3) := by decide +kernel
theorem dX5_lastOf_69 : decode cX5_lastOf 69 = .ok (.invokevirtual 202, 3) := by decide +kernel
theorem dX5_lastOf_72 : decode cX5_lastOf 72 = .ok (.aload_n 0, 1) := by decide +kernel
theorem dX5_lastOf_73 : decode cX5_lastOf 73 = .ok (.iload_n 1, 1) := by decide +kernel
theorem dX5_lastOf_74 : decode cX5_lastOf 74 = .ok (.iload 4, 2) := by decide +kernel
theorem dX5_lastOf_76 : decode cX5_lastOf 76 = .ok (.invokevirtual 202, 3) := by decide +kernel
theorem dX5_lastOf_79 : decode cX5_lastOf 79 = .ok (.if_icmp .le 19, 3) := by decide +kernel
theorem dX5_lastOf_82 : decode cX5_lastOf 82 = .ok (.aload_n 0, 1) := by decide +kernel
theorem dX5_lastOf_83 : decode cX5_lastOf 83 = .ok (.getfield 196, 3) := by decide +kernel
theorem dX5_lastOf_86 : decode cX5_lastOf 86 = .ok (.istore 4, 2) := by decide +kernel
theorem dX5_lastOf_88 : decode cX5_lastOf 88 = .ok (.iload 7, 2) := by decide +kernel
theorem dX5_lastOf_90 : decode cX5_lastOf 90 = .ok (.istore 5, 2) := by decide +kernel
theorem dX5_lastOf_92 : decode cX5_lastOf 92 = .ok (.aload_n 0, 1) := by decide +kernel
theorem dX5_lastOf_93 : decode cX5_lastOf 93 = .ok (.getfield 199, 3) := by decide +kernel
theorem dX5_lastOf_96 : decode cX5_lastOf 96 = .ok (.istore 6, 2) := by decide +kernel
theorem dX5_lastOf_98 : decode cX5_lastOf 98 = .ok (.iinc 7 1, 3) := by decide +kernel
theorem dX5_lastOf_101 : decode cX5_lastOf 101 = .ok (.goto (-74), 3) := by decide +kernel
theorem dX5_lastOf_104 : decode cX5_lastOf 104 = .ok (.iload_n 3, 1) := by decide +kernel
theorem dX5_lastOf_105 : decode cX5_lastOf 105 = .ok (.ifCond .ne 13, 3) := by decide +kernel
theorem dX5_lastOf_108 : decode cX5_lastOf 108 = .ok (.aload_n 0, 1) := by decide +kernel
theorem dX5_lastOf_109 : decode cX5_lastOf 109 = .ok (.iload_n 1, 1) := by decide +kernel
theorem dX5_lastOf_110 : decode cX5_lastOf 110 = .ok (.iload 4, 2) := by decide +kernel
theorem dX5_lastOf_112 : decode cX5_lastOf 112 = .ok (.invokevirtual 202, 3) := by decide +kernel
theorem dX5_lastOf_115 : decode cX5_lastOf 115 = .ok (.goto 30, 3) := by decide +kernel
theorem dX5_lastOf_118 : decode cX5_lastOf 118 = .ok (.iload_n 3, 1) := by decide +kernel
theorem dX5_lastOf_119 : decode cX5_lastOf 119 = .ok (.iconst 1, 1) := by decide +kernel
theorem dX5_lastOf_120 : decode cX5_lastOf 120 = .ok (.if_icmp .ne 13, 3) := by decide +kernel
theorem dX5_lastOf_123 : decode cX5_lastOf 123 = .ok (.aload_n 0, 1) := by decide +kernel
theorem dX5_lastOf_124 : decode cX5_lastOf 124 = .ok (.iload_n 2, 1) := by decide +kernel
theorem dX5_lastOf_125 : decode cX5_lastOf 125 = .ok (.iload 4, 2) := by decide +kernel
theorem dX5_lastOf_127 : decode cX5_lastOf 127 = .ok (.invokevirtual 202, 3) := by decide +kernel
theorem dX5_lastOf_130 : decode cX5_lastOf 130 = .ok (.goto 15, 3) := by decide +kernel
theorem dX5_lastOf_133 : decode cX5_lastOf 133 = .ok (.iload_n 3, 1) := by decide +kernel
theorem dX5_lastOf_134 : decode cX5_lastOf 134 = .ok (.iconst 2, 1) := by decide +kernel
theorem dX5_lastOf_135 : decode cX5_lastOf 135 = .ok (.if_icmp .ne 8, 3) := by decide +kernel
theorem dX5_lastOf_138 : decode cX5_lastOf 138 = .ok (.iload 5, 2) := by decide +kernel
theorem dX5_lastOf_140 : decode cX5_lastOf 140 = .ok (.goto 5, 3) := by decide +kernel
theorem dX5_lastOf_143 : decode cX5_lastOf 143 = .ok (.iload 6, 2) := by decide +kernel
theorem dX5_lastOf_145 : decode cX5_lastOf 145 = .ok (.ireturn, 1) := by decide +kernel
theorem dX5_last_0 : decode cX5_last 0 = .ok (.aload_n 0, 1) := by decide +kernel
theorem dX5_last_1 : decode cX5_last 1 = .ok (.invokevirtual 100, 3) := by decide +kernel
theorem dX5_last_4 : decode cX5_last 4 = .ok (.pop, 1) := by decide +kernel
theorem dX5_last_5 : decode cX5_last 5 = .ok (.iload_n 1, 1) := by decide +kernel
theorem dX5_last_6 : decode cX5_last 6 = .ok (.i2l, 1) := by decide +kernel
theorem dX5_last_7 : decode cX5_last 7 = .ok (.lconst 0, 1) := by decide +kernel
theorem dX5_last_8 : decode cX5_last 8 = .ok (.ldc2_w 88, 3) := by decide +kernel
theorem dX5_last_11 : decode cX5_last 11 = .ok (.invokestatic 44, 3) := by decide +kernel
theorem dX5_last_14 : decode cX5_last 14 = .ok (.ifCond .eq 42, 3) := by decide +kernel
theorem dX5_last_17 : decode cX5_last 17 = .ok (.iload_n 2, 1) := by decide +kernel
theorem dX5_last_18 : decode cX5_last 18 = .ok (.i2l, 1) := by decide +kernel
theorem dX5_last_19 : decode cX5_last 19 = .ok (.lconst 0, 1) := by decide +kernel
theorem dX5_last_20 : decode cX5_last 20 = .ok (.ldc2_w 88, 3) := by decide +kernel
theorem dX5_last_23 : decode cX5_last 23 = .ok (.invokestatic 44, 3) := by decide +kernel
theorem dX5_last_26 : decode cX5_last 26 = .ok (.ifCond .eq 30, 3) := by decide +kernel
theorem dX5_last_29 : decode cX5_last 29 = .ok (.iload_n 1, 1) := by decide +kernel
theorem dX5_last_30 : decode cX5_last 30 = .ok (.iload_n 2, 1) := by decide +kernel
theorem dX5_last_31 : decode cX5_last 31 = .ok (.if_icmp .eq 25, 3) := by decide +kernel
theorem dX5_last_34 : decode cX5_last 34 = .ok (.iload_n 3, 1) := by decide +kernel
theorem dX5_last_35 : decode cX5_last 35 = .ok (.i2l, 1) := by decide +kernel
theorem dX5_last_36 : decode cX5_last 36 = .ok (.lconst 0, 1) := by decide +kernel
theorem dX5_last_37 : decode cX5_last 37 = .ok (.ldc2_w 52, 3) := by decide +kernel
theorem dX5_last_40 : decode cX5_last 40 = .ok (.invokestatic 44, 3) := by decide +kernel
theorem dX5_last_43 : decode cX5_last 43 = .ok (.ifCond .eq 13, 3) := by decide +kernel
theorem dX5_last_46 : decode cX5_last 46 = .ok (.aload_n 0, 1) := by decide +kernel
theorem dX5_last_47 : decode cX5_last 47 = .ok (.iload_n 1, 1) := by decide +kernel
theorem dX5_last_48 : decode cX5_last 48 = .ok (.iload_n 2, 1) := by decide +kernel
theorem dX5_last_49 : decode cX5_last 49 = .ok (.iload_n 3, 1) := by decide +kernel
theorem dX5_last_50 : decode cX5_last 50 = .ok (.invokevirtual 208, 3) := by decide +kernel
theorem dX5_last_53 : decode cX5_last 53 = .ok (.goto 6, 3) := by decide +kernel
theorem dX5_last_56 : decode cX5_last 56 = .ok (.sipush (-1002), 3) := by decide +kernel
theorem dX5_last_59 : decode cX5_last 59 = .ok (.ireturn, 1) := by decide +kernel
theorem dX5_seen_0 : decode cX5_seen 0 = .ok (.iload_n 1, 1) := by decide +kernel
theorem dX5_seen_1 : decode cX5_seen 1 = .ok (.i2l, 1) := by decide +kernel
theorem dX5_seen_2 : decode cX5_seen 2 = .ok (.lconst 0, 1) := by decide +kernel
theorem dX5_seen_3 : decode cX5_seen 3 = .ok (.ldc2_w 118, 3) := by decide +kernel
theorem dX5_seen_6 : decode cX5_seen 6 = .ok (.invokestatic 44, 3) := by decide +kernel
theorem dX5_seen_9 : decode cX5_seen 9 = .ok (.ifCond .eq 10, 3) := by decide +kernel
theorem dX5_seen_12 : decode cX5_seen 12 = .ok (.iload_n 2, 1) := by decide +kernel
theorem dX5_seen_13 : decode cX5_seen 13 = .ok (.invokestatic 156, 3) := by decide +kernel
theorem dX5_seen_16 : decode cX5_seen 16 = .ok (.ifCond .ne 6, 3) := by decide +kernel
theorem dX5_seen_19 : decode cX5_seen 19 = .ok (.bipush (-2), 2) := by decide +kernel
theorem dX5_seen_21 : decode cX5_seen 21 = .ok (.ireturn, 1) := by decide +kernel
theorem dX5_seen_22 : decode cX5_seen 22 = .ok (.aload_n 0, 1) := by decide +kernel
theorem dX5_seen_23 : decode cX5_seen 23 = .ok (.getfield 211, 3) := by decide +kernel
theorem dX5_seen_26 : decode cX5_seen 26 = .ok (.bipush 8, 2) := by decide +kernel
theorem dX5_seen_28 : decode cX5_seen 28 = .ok (.if_icmp .ne 6, 3) := by decide +kernel
theorem dX5_seen_31 : decode cX5_seen 31 = .ok (.bipush (-4), 2) := by decide +kernel
theorem dX5_seen_33 : decode cX5_seen 33 = .ok (.ireturn, 1) := by decide +kernel
theorem dX5_seen_34 : decode cX5_seen 34 = .ok (.aload_n 0, 1) := by decide +kernel
theorem dX5_seen_35 : decode cX5_seen 35 = .ok (.getfield 41, 3) := by decide +kernel
theorem dX5_seen_38 : decode cX5_seen 38 = .ok (.iconst 2, 1) := by decide +kernel
theorem dX5_seen_39 : decode cX5_seen 39 = .ok (.aload_n 0, 1) := by decide +kernel
theorem dX5_seen_40 : decode cX5_seen 40 = .ok (.getfield 211, 3) := by decide +kernel
theorem dX5_seen_43 : decode cX5_seen 43 = .ok (.imul, 1) := by decide +kernel
theorem dX5_seen_44 : decode cX5_seen 44 = .ok (.iload_n 1, 1) := by decide +kernel
theorem dX5_seen_45 : decode cX5_seen 45 = .ok (.iastore, 1) := by decide +kernel
theorem dX5_seen_46 : decode cX5_seen 46 = .ok (.aload_n 0, 1) := by decide +kernel
theorem dX5_seen_47 : decode cX5_seen 47 = .ok (.getfield 41, 3) := by decide +kernel
theorem dX5_seen_50 : decode cX5_seen 50 = .ok (.iconst 2, 1) := by decide +kernel
theorem dX5_seen_51 : decode cX5_seen 51 = .ok (.aload_n 0, 1) := by decide +kernel
theorem dX5_seen_52 : decode cX5_seen 52 = .ok (.getfield 211, 3) := by decide +kernel
theorem dX5_seen_55 : decode cX5_seen 55 = .ok (.imul, 1) := by decide +kernel
theorem dX5_seen_56 : decode cX5_seen 56 = .ok (.iconst 1, 1) := by decide +kernel
theorem dX5_seen_57 : decode cX5_seen 57 = .ok (.iadd, 1) := by decide +kernel
theorem dX5_seen_58 : decode cX5_seen 58 = .ok (.iload_n 2, 1) := by decide +kernel
theorem dX5_seen_59 : decode cX5_seen 59 = .ok (.iastore, 1) := by decide +kernel
theorem dX5_seen_60 : decode cX5_seen 60 = .ok (.aload_n 0, 1) := by decide +kernel
theorem dX5_seen_61 : decode cX5_seen 61 = .ok (.dup, 1) := by decide +kernel
theorem dX5_seen_62 : decode cX5_seen 62 = .ok (.getfield 211, 3) := by decide +kernel
theorem dX5_seen_65 : decode cX5_seen 65 = .ok (.iconst 1, 1) := by decide +kernel
theorem dX5_seen_66 : decode cX5_seen 66 = .ok (.iadd, 1) := by decide +kernel
theorem dX5_seen_67 : decode cX5_seen 67 = .ok (.putfield 211, 3) := by decide +kernel
theorem dX5_seen_70 : decode cX5_seen 70 = .ok (.aload_n 0, 1) := by decide +kernel
theorem dX5_seen_71 : decode cX5_seen 71 = .ok (.getfield 211, 3) := by decide +kernel
theorem dX5_seen_74 : decode cX5_seen 74 = .ok (.ireturn, 1) := by decide +kernel
theorem dX5_forget_0 : decode cX5_forget 0 = .ok (.aload_n 0, 1) := by decide +kernel
theorem dX5_forget_1 : decode cX5_forget 1 = .ok (.getfield 211, 3) := by decide +kernel
theorem dX5_forget_4 : decode cX5_forget 4 = .ok (.istore_n 1, 1) := by decide +kernel
theorem dX5_forget_5 : decode cX5_forget 5 = .ok (.aload_n 0, 1) := by decide +kernel
theorem dX5_forget_6 : decode cX5_forget 6 = .ok (.iconst 0, 1) := by decide +kernel
theorem dX5_forget_7 : decode cX5_forget 7 = .ok (.putfield 211, 3) := by decide +kernel
theorem dX5_forget_10 : decode cX5_forget 10 = .ok (.iload_n 1, 1) := by decide +kernel
theorem dX5_forget_11 : decode cX5_forget 11 = .ok (.ireturn, 1) := by decide +kernel
theorem dX5_oftenNow_0 : decode cX5_oftenNow 0 = .ok (.iconst 0, 1) := by decide +kernel
theorem dX5_oftenNow_1 : decode cX5_oftenNow 1 = .ok (.istore_n 1, 1) := by decide +kernel
theorem dX5_oftenNow_2 : decode cX5_oftenNow 2 = .ok (.iconst 0, 1) := by decide +kernel
theorem dX5_oftenNow_3 : decode cX5_oftenNow 3 = .ok (.istore_n 2, 1) := by decide +kernel
theorem dX5_oftenNow_4 : decode cX5_oftenNow 4 = .ok (.iload_n 2, 1) := by decide +kernel
theorem dX5_oftenNow_5 : decode cX5_oftenNow 5 = .ok (.aload_n 0, 1) := by decide +kernel
theorem dX5_oftenNow_6 : decode cX5_oftenNow 6 = .ok (.getfield 108, 3) := by decide +kernel
theorem dX5_oftenNow_9 : decode cX5_oftenNow 9 = .ok (.if_icmp .gt 91, 3) := by decide +kernel
theorem dX5_oftenNow_12 : decode cX5_oftenNow 12 = .ok (.aload_n 0, 1) := by decide +kernel
theorem dX5_oftenNow_13 : decode cX5_oftenNow 13 = .ok (.iload_n 2, 1) := by decide +kernel
theorem dX5_oftenNow_14 : decode cX5_oftenNow 14 = .ok (.iconst 0, 1) := by decide +kernel
theorem dX5_oftenNow_15 : decode cX5_oftenNow 15 = .ok (.invokevirtual 159, 3) := by decide +kernel
theorem dX5_oftenNow_18 : decode cX5_oftenNow 18 = .ok (.istore_n 3, 1) := by decide +kernel
theorem dX5_oftenNow_19 : decode cX5_oftenNow 19 = .ok (.iconst 1, 1) := by decide +kernel
theorem dX5_oftenNow_20 : decode cX5_oftenNow 20 = .ok (.istore 4, 2) := by decide +kernel
theorem dX5_oftenNow_22 : decode cX5_oftenNow 22 = .ok (.iconst 0, 1) := by decide +kernel
theorem dX5_oftenNow_23 : decode cX5_oftenNow 23 = .ok (.istore 5, 2) := by decide +kernel
theorem dX5_oftenNow_25 : decode cX5_oftenNow 25 = .ok (.iload 5, 2) := by decide +kernel
theorem dX5_oftenNow_27 : decode cX5_oftenNow 27 = .ok (.aload_n 0, 1) := by decide +kernel
theorem dX5_oftenNow_28 : decode cX5_oftenNow 28 = .ok (.getfield 211, 3) := by decide +kernel
theorem dX5_oftenNow_31 : decode cX5_oftenNow 31 = .ok (.if_icmp .ge 48, 3) := by decide +kernel
theorem dX5_oftenNow_34 : decode cX5_oftenNow 34 = .ok (.iload 4, 2) := by decide +kernel
theorem dX5_oftenNow_36 : decode cX5_oftenNow 36 = .ok (.ifCond .eq 34, 3) := by decide +kernel
theorem dX5_oftenNow_39 : decode cX5_oftenNow 39 = .ok (.iload_n 3, 1) := by decide +kernel
theorem dX5_oftenNow_40 : decode cX5_oftenNow 40 = .ok (.aload_n 0, 1) := by decide +kernel
theorem dX5_oftenNow_41 : decode cX5_oftenNow 41 = .ok (.getfield 41, 3) := by decide +kernel
theorem dX5_oftenNow_44 : decode cX5_oftenNow 44 = .ok (.iconst 2, 1) := by decide +kernel
theorem dX5_oftenNow_45 : decode cX5_oftenNow 45 = .ok (.iload 5, 2) := by decide +kernel
theorem dX5_oftenNow_47 : decode cX5_oftenNow 47 = .ok (.imul, 1) := by decide +kernel
theorem dX5_oftenNow_48 : decode cX5_oftenNow 48 = .ok (.iaload, 1) := by decide +kernel
theorem dX5_oftenNow_49 : decode cX5_oftenNow 49 = .ok (.ishr, 1) := by decide +kernel
theorem dX5_oftenNow_50 : decode cX5_oftenNow 50 = .ok (.iconst 1, 1) := by decide +kernel
theorem dX5_oftenNow_51 : decode cX5_oftenNow 51 = .ok (.iand, 1) := by decide +kernel
theorem dX5_oftenNow_52 : decode cX5_oftenNow 52 = .ok (.aload_n 0, 1) := by decide +kernel
theorem dX5_oftenNow_53 : decode cX5_oftenNow 53 = .ok (.getfield 41, 3) := by decide +kernel
theorem dX5_oftenNow_56 : decode cX5_oftenNow 56 = .ok (.iconst 2, 1) := by decide +kernel
theorem dX5_oftenNow_57 : decode cX5_oftenNow 57 = .ok (.iload 5, 2) := by decide +kernel
theorem dX5_oftenNow_59 : decode cX5_oftenNow 59 = .ok (.imul, 1) := by decide +kernel
theorem dX5_oftenNow_60 : decode cX5_oftenNow 60 = .ok (.iconst 1, 1) := by decide +kernel
theorem dX5_oftenNow_61 : decode cX5_oftenNow 61 = .ok (.iadd, 1) := by decide +kernel
theorem dX5_oftenNow_62 : decode cX5_oftenNow 62 = .ok (.iaload, 1) := by decide +kernel
theorem dX5_oftenNow_63 : decode cX5_oftenNow 63 = .ok (.if_icmp .ne 7, 3) := by decide +kernel
theorem dX5_oftenNow_66 : decode cX5_oftenNow 66 = .ok (.iconst 1, 1) := by decide +kernel
theorem dX5_oftenNow_67 : decode cX5_oftenNow 67 = .ok (.goto 4, 3) := by decide +kernel
theorem dX5_oftenNow_70 : decode cX5_oftenNow 70 = .ok (.iconst 0, 1) := by decide +kernel
theorem dX5_oftenNow_71 : decode cX5_oftenNow 71 = .ok (.istore 4, 2) := by decide +kernel
theorem dX5_oftenNow_73 : decode cX5_oftenNow 73 = .ok (.iinc 5 1, 3) := by decide +kernel
theorem dX5_oftenNow_76 : decode cX5_oftenNow 76 = .ok (.goto (-51), 3) := by decide +kernel
theorem dX5_oftenNow_79 : decode cX5_oftenNow 79 = .ok (.iload_n 1, 1) := by decide +kernel
theorem dX5_oftenNow_80 : decode cX5_oftenNow 80 = .ok (.iload 4, 2) := by decide +kernel
theorem dX5_oftenNow_82 : decode cX5_oftenNow 82 = .ok (.ifCond .eq 9, 3) := by decide +kernel
theorem dX5_oftenNow_85 : decode cX5_oftenNow 85 = .ok (.iconst 1, 1) := by decide +kernel
theorem dX5_oftenNow_86 : decode cX5_oftenNow 86 = .ok (.iload_n 2, 1) := by decide +kernel
theorem dX5_oftenNow_87 : decode cX5_oftenNow 87 = .ok (.ishl, 1) := by decide +kernel
theorem dX5_oftenNow_88 : decode cX5_oftenNow 88 = .ok (.goto 4, 3) := by decide +kernel
theorem dX5_oftenNow_91 : decode cX5_oftenNow 91 = .ok (.iconst 0, 1) := by decide +kernel
theorem dX5_oftenNow_92 : decode cX5_oftenNow 92 = .ok (.ior, 1) := by decide +kernel
theorem dX5_oftenNow_93 : decode cX5_oftenNow 93 = .ok (.istore_n 1, 1) := by decide +kernel
theorem dX5_oftenNow_94 : decode cX5_oftenNow 94 = .ok (.iinc 2 1, 3) := by decide +kernel
theorem dX5_oftenNow_97 : decode cX5_oftenNow 97 = .ok (.goto (-93), 3) := by decide +kernel
theorem dX5_oftenNow_100 : decode cX5_oftenNow 100 = .ok (.iload_n 1, 1) := by decide +kernel
theorem dX5_oftenNow_101 : decode cX5_oftenNow 101 = .ok (.ireturn, 1) := by decide +kernel
theorem dX5_often_0 : decode cX5_often 0 = .ok (.aload_n 0, 1) := by decide +kernel
theorem dX5_often_1 : decode cX5_often 1 = .ok (.invokevirtual 100, 3) := by decide +kernel
theorem dX5_often_4 : decode cX5_often 4 = .ok (.pop, 1) := by decide +kernel
theorem dX5_often_5 : decode cX5_often 5 = .ok (.aload_n 0, 1) := by decide +kernel
theorem dX5_often_6 : decode cX5_often 6 = .ok (.invokevirtual 214, 3) := by decide +kernel
theorem dX5_often_9 : decode cX5_often 9 = .ok (.ireturn, 1) := by decide +kernel
theorem dX5_lot_0 : decode cX5_lot 0 = .ok (.aload_n 0, 1) := by decide +kernel
theorem dX5_lot_1 : decode cX5_lot 1 = .ok (.ldc 217, 2) := by decide +kernel
theorem dX5_lot_3 : decode cX5_lot 3 = .ok (.aload_n 0, 1) := by decide +kernel
theorem dX5_lot_4 : decode cX5_lot 4 = .ok (.getfield 218, 3) := by decide +kernel
theorem dX5_lot_7 : decode cX5_lot 7 = .ok (.imul, 1) := by decide +kernel
theorem dX5_lot_8 : decode cX5_lot 8 = .ok (.sipush 12345, 3) := by decide +kernel
theorem dX5_lot_11 : decode cX5_lot 11 = .ok (.iadd, 1) := by decide +kernel
theorem dX5_lot_12 : decode cX5_lot 12 = .ok (.putfield 218, 3) := by decide +kernel
theorem dX5_lot_15 : decode cX5_lot 15 = .ok (.aload_n 0, 1) := by decide +kernel
theorem dX5_lot_16 : decode cX5_lot 16 = .ok (.getfield 218, 3) := by decide +kernel
theorem dX5_lot_19 : decode cX5_lot 19 = .ok (.bipush 16, 2) := by decide +kernel
theorem dX5_lot_21 : decode cX5_lot 21 = .ok (.iushr, 1) := by decide +kernel
theorem dX5_lot_22 : decode cX5_lot 22 = .ok (.iload_n 1, 1) := by decide +kernel
theorem dX5_lot_23 : decode cX5_lot 23 = .ok (.irem, 1) := by decide +kernel
theorem dX5_lot_24 : decode cX5_lot 24 = .ok (.ireturn, 1) := by decide +kernel
theorem dX5_among_0 : decode cX5_among 0 = .ok (.iload_n 1, 1) := by decide +kernel
theorem dX5_among_1 : decode cX5_among 1 = .ok (.istore_n 2, 1) := by decide +kernel
theorem dX5_among_2 : decode cX5_among 2 = .ok (.iconst 0, 1) := by decide +kernel
theorem dX5_among_3 : decode cX5_among 3 = .ok (.istore_n 3, 1) := by decide +kernel
theorem dX5_among_4 : decode cX5_among 4 = .ok (.iload_n 0, 1) := by decide +kernel
theorem dX5_among_5 : decode cX5_among 5 = .ok (.iload_n 3, 1) := by decide +kernel
theorem dX5_among_6 : decode cX5_among 6 = .ok (.invokestatic 127, 3) := by decide +kernel
theorem dX5_among_9 : decode cX5_among 9 = .ok (.ifCond .eq 7, 3) := by decide +kernel
theorem dX5_among_12 : decode cX5_among 12 = .ok (.iload_n 2, 1) := by decide +kernel
theorem dX5_among_13 : decode cX5_among 13 = .ok (.ifCond .le 25, 3) := by decide +kernel
theorem dX5_among_16 : decode cX5_among 16 = .ok (.iload_n 2, 1) := by decide +kernel
theorem dX5_among_17 : decode cX5_among 17 = .ok (.iload_n 0, 1) := by decide +kernel
theorem dX5_among_18 : decode cX5_among 18 = .ok (.iload_n 3, 1) := by decide +kernel
theorem dX5_among_19 : decode cX5_among 19 = .ok (.invokestatic 127, 3) := by decide +kernel
theorem dX5_among_22 : decode cX5_among 22 = .ok (.ifCond .eq 7, 3) := by decide +kernel
theorem dX5_among_25 : decode cX5_among 25 = .ok (.iconst 1, 1) := by decide +kernel
theorem dX5_among_26 : decode cX5_among 26 = .ok (.goto 4, 3) := by decide +kernel
theorem dX5_among_29 : decode cX5_among 29 = .ok (.iconst 0, 1) := by decide +kernel
theorem dX5_among_30 : decode cX5_among 30 = .ok (.isub, 1) := by decide +kernel
theorem dX5_among_31 : decode cX5_among 31 = .ok (.istore_n 2, 1) := by decide +kernel
theorem dX5_among_32 : decode cX5_among 32 = .ok (.iinc 3 1, 3) := by decide +kernel
theorem dX5_among_35 : decode cX5_among 35 = .ok (.goto (-31), 3) := by decide +kernel
theorem dX5_among_38 : decode cX5_among 38 = .ok (.iload_n 3, 1) := by decide +kernel
theorem dX5_among_39 : decode cX5_among 39 = .ok (.ireturn, 1) := by decide +kernel
theorem dX5_ofOthers_0 : decode cX5_ofOthers 0 = .ok (.iconst 0, 1) := by decide +kernel
theorem dX5_ofOthers_1 : decode cX5_ofOthers 1 = .ok (.istore_n 2, 1) := by decide +kernel
theorem dX5_ofOthers_2 : decode cX5_ofOthers 2 = .ok (.iconst 0, 1) := by decide +kernel
theorem dX5_ofOthers_3 : decode cX5_ofOthers 3 = .ok (.istore_n 3, 1) := by decide +kernel
theorem dX5_ofOthers_4 : decode cX5_ofOthers 4 = .ok (.iload_n 3, 1) := by decide +kernel
theorem dX5_ofOthers_5 : decode cX5_ofOthers 5 = .ok (.aload_n 0, 1) := by decide +kernel
theorem dX5_ofOthers_6 : decode cX5_ofOthers 6 = .ok (.getfield 81, 3) := by decide +kernel
theorem dX5_ofOthers_9 : decode cX5_ofOthers 9 = .ok (.if_icmp .ge 31, 3) := by decide +kernel
theorem dX5_ofOthers_12 : decode cX5_ofOthers 12 = .ok (.iload_n 2, 1) := by decide +kernel
theorem dX5_ofOthers_13 : decode cX5_ofOthers 13 = .ok (.aload_n 0, 1) := by decide +kernel
theorem dX5_ofOthers_14 : decode cX5_ofOthers 14 = .ok (.getfield 25, 3) := by decide +kernel
theorem dX5_ofOthers_17 : decode cX5_ofOthers 17 = .ok (.iconst 3, 1) := by decide +kernel
theorem dX5_ofOthers_18 : decode cX5_ofOthers 18 = .ok (.iload_n 3, 1) := by decide +kernel
theorem dX5_ofOthers_19 : decode cX5_ofOthers 19 = .ok (.imul, 1) := by decide +kernel
theorem dX5_ofOthers_20 : decode cX5_ofOthers 20 = .ok (.iaload, 1) := by decide +kernel
theorem dX5_ofOthers_21 : decode cX5_ofOthers 21 = .ok (.iload_n 1, 1) := by decide +kernel
theorem dX5_ofOthers_22 : decode cX5_ofOthers 22 = .ok (.if_icmp .eq 9, 3) := by decide +kernel
theorem dX5_ofOthers_25 : decode cX5_ofOthers 25 = .ok (.iconst 1, 1) := by decide +kernel
theorem dX5_ofOthers_26 : decode cX5_ofOthers 26 = .ok (.iload_n 3, 1) := by decide +kernel
theorem dX5_ofOthers_27 : decode cX5_ofOthers 27 = .ok (.ishl, 1) := by decide +kernel
theorem dX5_ofOthers_28 : decode cX5_ofOthers 28 = .ok (.goto 4, 3) := by decide +kernel
theorem dX5_ofOthers_31 : decode cX5_ofOthers 31 = .ok (.iconst 0, 1) := by decide +kernel
theorem dX5_ofOthers_32 : decode cX5_ofOthers 32 = .ok (.ior, 1) := by decide +kernel
theorem dX5_ofOthers_33 : decode cX5_ofOthers 33 = .ok (.istore_n 2, 1) := by decide +kernel
theorem dX5_ofOthers_34 : decode cX5_ofOthers 34 = .ok (.iinc 3 1, 3) := by decide +kernel
theorem dX5_ofOthers_37 : decode cX5_ofOthers 37 = .ok (.goto (-33), 3) := by decide +kernel
theorem dX5_ofOthers_40 : decode cX5_ofOthers 40 = .ok (.iload_n 2, 1) := by decide +kernel
theorem dX5_ofOthers_41 : decode cX5_ofOthers 41 = .ok (.ireturn, 1) := by decide +kernel
theorem dX5_drawnOf_0 : decode cX5_drawnOf 0 = .ok (.aload_n 0, 1) := by decide +kernel
theorem dX5_drawnOf_1 : decode cX5_drawnOf 1 = .ok (.iload_n 1, 1) := by decide +kernel
theorem dX5_drawnOf_2 : decode cX5_drawnOf 2 = .ok (.putfield 218, 3) := by decide +kernel
theorem dX5_drawnOf_5 : decode cX5_drawnOf 5 = .ok (.iconst 0, 1) := by decide +kernel
theorem dX5_drawnOf_6 : decode cX5_drawnOf 6 = .ok (.istore 4, 2) := by decide +kernel
theorem dX5_drawnOf_8 : decode cX5_drawnOf 8 = .ok (.iconst 1, 1) := by decide +kernel
theorem dX5_drawnOf_9 : decode cX5_drawnOf 9 = .ok (.istore 5, 2) := by decide +kernel
theorem dX5_drawnOf_11 : decode cX5_drawnOf 11 = .ok (.iload 5, 2) := by decide +kernel
theorem dX5_drawnOf_13 : decode cX5_drawnOf 13 = .ok (.ifCond .eq 147, 3) := by decide +kernel
theorem dX5_drawnOf_16 : decode cX5_drawnOf 16 = .ok (.iload 4, 2) := by decide +kernel
theorem dX5_drawnOf_18 : decode cX5_drawnOf 18 = .ok (.iload_n 2, 1) := by decide +kernel
theorem dX5_drawnOf_19 : decode cX5_drawnOf 19 = .ok (.if_icmp .ge 141, 3) := by decide +kernel
theorem dX5_drawnOf_22 : decode cX5_drawnOf 22 = .ok (.aload_n 0, 1) := by decide +kernel
theorem dX5_drawnOf_23 : decode cX5_drawnOf 23 = .ok (.getfield 108, 3) := by decide +kernel
theorem dX5_drawnOf_26 : decode cX5_drawnOf 26 = .ok (.iload 4, 2) := by decide +kernel
theorem dX5_drawnOf_28 : decode cX5_drawnOf 28 = .ok (.iadd, 1) := by decide +kernel
theorem dX5_drawnOf_29 : decode cX5_drawnOf 29 = .ok (.bipush 12, 2) := by decide +kernel
theorem dX5_drawnOf_31 : decode cX5_drawnOf 31 = .ok (.if_icmp .ge 129, 3) := by decide +kernel
theorem dX5_drawnOf_34 : decode cX5_drawnOf 34 = .ok (.aload_n 0, 1) := by decide +kernel
theorem dX5_drawnOf_35 : decode cX5_drawnOf 35 = .ok (.aload_n 0, 1) := by decide +kernel
theorem dX5_drawnOf_36 : decode cX5_drawnOf 36 = .ok (.getfield 108, 3) := by decide +kernel
theorem dX5_drawnOf_39 : decode cX5_drawnOf 39 = .ok (.iload 4, 2) := by decide +kernel
theorem dX5_drawnOf_41 : decode cX5_drawnOf 41 = .ok (.iadd, 1) := by decide +kernel
theorem dX5_drawnOf_42 : decode cX5_drawnOf 42 = .ok (.iconst (-1), 1) := by decide +kernel
theorem dX5_drawnOf_43 : decode cX5_drawnOf 43 = .ok (.invokevirtual 140, 3) := by decide +kernel
theorem dX5_drawnOf_46 : decode cX5_drawnOf 46 = .ok (.bipush 63, 2) := by decide +kernel
theorem dX5_drawnOf_48 : decode cX5_drawnOf 48 = .ok (.aload_n 0, 1) := by decide +kernel
theorem dX5_drawnOf_49 : decode cX5_drawnOf 49 = .ok (.getfield 124, 3) := by decide +kernel
theorem dX5_drawnOf_52 : decode cX5_drawnOf 52 = .ok (.iconst (-1), 1) := by decide +kernel
theorem dX5_drawnOf_53 : decode cX5_drawnOf 53 = .ok (.ixor, 1) := by decide +kernel
theorem dX5_drawnOf_54 : decode cX5_drawnOf 54 = .ok (.iand, 1) := by decide +kernel
theorem dX5_drawnOf_55 : decode cX5_drawnOf 55 = .ok (.istore 6, 2) := by decide +kernel
theorem dX5_drawnOf_57 : decode cX5_drawnOf 57 = .ok (.iload 6, 2) := by decide +kernel
theorem dX5_drawnOf_59 : decode cX5_drawnOf 59 = .ok (.ifCond .eq 7, 3) := by decide +kernel
theorem dX5_drawnOf_62 : decode cX5_drawnOf 62 = .ok (.iconst 1, 1) := by decide +kernel
theorem dX5_drawnOf_63 : decode cX5_drawnOf 63 = .ok (.goto 4, 3) := by decide +kernel
theorem dX5_drawnOf_66 : decode cX5_drawnOf 66 = .ok (.iconst 0, 1) := by decide +kernel
theorem dX5_drawnOf_67 : decode cX5_drawnOf 67 = .ok (.istore 5, 2) := by decide +kernel
theorem dX5_drawnOf_69 : decode cX5_drawnOf 69 = .ok (.iload 5, 2) := by decide +kernel
theorem dX5_drawnOf_71 : decode cX5_drawnOf 71 = .ok (.ifCond .eq 86, 3) := by decide +kernel
theorem dX5_drawnOf_74 : decode cX5_drawnOf 74 = .ok (.iload 6, 2) := by decide +kernel
theorem dX5_drawnOf_76 : decode cX5_drawnOf 76 = .ok (.aload_n 0, 1) := by decide +kernel
theorem dX5_drawnOf_77 : decode cX5_drawnOf 77 = .ok (.iload 6, 2) := by decide +kernel
theorem dX5_drawnOf_79 : decode cX5_drawnOf 79 = .ok (.invokestatic 90, 3) := by decide +kernel
theorem dX5_drawnOf_82 : decode cX5_drawnOf 82 = .ok (.invokevirtual 221, 3) := by decide +kernel
theorem dX5_drawnOf_85 : decode cX5_drawnOf 85 = .ok (.invokestatic 224, 3) := by decide +kernel
theorem dX5_drawnOf_88 : decode cX5_drawnOf 88 = .ok (.istore 7, 2) := by decide +kernel
theorem dX5_drawnOf_90 : decode cX5_drawnOf 90 = .ok (.aload_n 0, 1) := by decide +kernel
theorem dX5_drawnOf_91 : decode cX5_drawnOf 91 = .ok (.aload_n 0, 1) := by decide +kernel
theorem dX5_drawnOf_92 : decode cX5_drawnOf 92 = .ok (.getfield 108, 3) := by decide +kernel
theorem dX5_drawnOf_95 : decode cX5_drawnOf 95 = .ok (.iload 4, 2) := by decide +kernel
theorem dX5_drawnOf_97 : decode cX5_drawnOf 97 = .ok (.iadd, 1) := by decide +kernel
theorem dX5_drawnOf_98 : decode cX5_drawnOf 98 = .ok (.invokevirtual 153, 3) := by decide +kernel
theorem dX5_drawnOf_101 : decode cX5_drawnOf 101 = .ok (.aload_n 0, 1) := by decide +kernel
theorem dX5_drawnOf_102 : decode cX5_drawnOf 102 = .ok (.iload 7, 2) := by decide +kernel
theorem dX5_drawnOf_104 : decode cX5_drawnOf 104 = .ok (.invokevirtual 227, 3) := by decide +kernel
theorem dX5_drawnOf_107 : decode cX5_drawnOf 107 = .ok (.iand, 1) := by decide +kernel
theorem dX5_drawnOf_108 : decode cX5_drawnOf 108 = .ok (.istore 8, 2) := by decide +kernel
theorem dX5_drawnOf_110 : decode cX5_drawnOf 110 = .ok (.iload 8, 2) := by decide +kernel
theorem dX5_drawnOf_112 : decode cX5_drawnOf 112 = .ok (.ifCond .eq 7, 3) := by decide +kernel
theorem dX5_drawnOf_115 : decode cX5_drawnOf 115 = .ok (.iconst 1, 1) := by decide +kernel
theorem dX5_drawnOf_116 : decode cX5_drawnOf 116 = .ok (.goto 4, 3) := by decide +kernel
theorem dX5_drawnOf_119 : decode cX5_drawnOf 119 = .ok (.iconst 0, 1) := by decide +kernel
theorem dX5_drawnOf_120 : decode cX5_drawnOf 120 = .ok (.istore 5, 2) := by decide +kernel
theorem dX5_drawnOf_122 : decode cX5_drawnOf 122 = .ok (.iload 5, 2) := by decide +kernel
theorem dX5_drawnOf_124 : decode cX5_drawnOf 124 = .ok (.ifCond .eq 33, 3) := by decide +kernel
theorem dX5_drawnOf_127 : decode cX5_drawnOf 127 = .ok (.aload_n 0, 1) := by decide +kernel
theorem dX5_drawnOf_128 : decode cX5_drawnOf 128 = .ok (.aload_n 0, 1) := by decide +kernel
theorem dX5_drawnOf_129 : decode cX5_drawnOf 129 = .ok (.getfield 108, 3) := by decide +kernel
theorem dX5_drawnOf_132 : decode cX5_drawnOf 132 = .ok (.iload 4, 2) := by decide +kernel
theorem dX5_drawnOf_134 : decode cX5_drawnOf 134 = .ok (.iadd, 1) := by decide +kernel
theorem dX5_drawnOf_135 : decode cX5_drawnOf 135 = .ok (.iload 7, 2) := by decide +kernel
theorem dX5_drawnOf_137 : decode cX5_drawnOf 137 = .ok (.iload 8, 2) := by decide +kernel
theorem dX5_drawnOf_139 : decode cX5_drawnOf 139 = .ok (.aload_n 0, 1) := by decide +kernel
theorem dX5_drawnOf_140 : decode cX5_drawnOf 140 = .ok (.iload 8, 2) := by decide +kernel
theorem dX5_drawnOf_142 : decode cX5_drawnOf 142 = .ok (.invokestatic 90, 3) := by decide +kernel
theorem dX5_drawnOf_145 : decode cX5_drawnOf 145 = .ok (.invokevirtual 221, 3) := by decide +kernel
theorem dX5_drawnOf_148 : decode cX5_drawnOf 148 = .ok (.invokestatic 224, 3) := by decide +kernel
theorem dX5_drawnOf_151 : decode cX5_drawnOf 151 = .ok (.invokevirtual 111, 3) := by decide +kernel
theorem dX5_drawnOf_154 : decode cX5_drawnOf 154 = .ok (.iinc 4 1, 3) := by decide +kernel
theorem dX5_drawnOf_157 : decode cX5_drawnOf 157 = .ok (.goto (-146), 3) := by decide +kernel
theorem dX5_drawnOf_160 : decode cX5_drawnOf 160 = .ok (.aload_n 0, 1) := by decide +kernel
theorem dX5_drawnOf_161 : decode cX5_drawnOf 161 = .ok (.aload_n 0, 1) := by decide +kernel
theorem dX5_drawnOf_162 : decode cX5_drawnOf 162 = .ok (.getfield 108, 3) := by decide +kernel
theorem dX5_drawnOf_165 : decode cX5_drawnOf 165 = .ok (.iload 4, 2) := by decide +kernel
theorem dX5_drawnOf_167 : decode cX5_drawnOf 167 = .ok (.iadd, 1) := by decide +kernel
theorem dX5_drawnOf_168 : decode cX5_drawnOf 168 = .ok (.iconst (-1), 1) := by decide +kernel
theorem dX5_drawnOf_169 : decode cX5_drawnOf 169 = .ok (.invokevirtual 140, 3) := by decide +kernel
theorem dX5_drawnOf_172 : decode cX5_drawnOf 172 = .ok (.iload_n 3, 1) := by decide +kernel
theorem dX5_drawnOf_173 : decode cX5_drawnOf 173 = .ok (.ifCond .ne 17, 3) := by decide +kernel
theorem dX5_drawnOf_176 : decode cX5_drawnOf 176 = .ok (.aload_n 0, 1) := by decide +kernel
theorem dX5_drawnOf_177 : decode cX5_drawnOf 177 = .ok (.aload_n 0, 1) := by decide +kernel
theorem dX5_drawnOf_178 : decode cX5_drawnOf 178 = .ok (.getfield 108, 3) := by decide +kernel
theorem dX5_drawnOf_181 : decode cX5_drawnOf 181 = .ok (.iload 4, 2) := by decide +kernel
theorem dX5_drawnOf_183 : decode cX5_drawnOf 183 = .ok (.iadd, 1) := by decide +kernel
theorem dX5_drawnOf_184 : decode cX5_drawnOf 184 = .ok (.invokevirtual 153, 3) := by decide +kernel
theorem dX5_drawnOf_187 : decode cX5_drawnOf 187 = .ok (.goto 5, 3) := by decide +kernel
theorem dX5_drawnOf_190 : decode cX5_drawnOf 190 = .ok (.iload 4, 2) := by decide +kernel
theorem dX5_drawnOf_192 : decode cX5_drawnOf 192 = .ok (.ireturn, 1) := by decide +kernel
theorem dX5_drawn_0 : decode cX5_drawn 0 = .ok (.aload_n 0, 1) := by decide +kernel
theorem dX5_drawn_1 : decode cX5_drawn 1 = .ok (.invokevirtual 100, 3) := by decide +kernel
theorem dX5_drawn_4 : decode cX5_drawn 4 = .ok (.pop, 1) := by decide +kernel
theorem dX5_drawn_5 : decode cX5_drawn 5 = .ok (.iload_n 2, 1) := by decide +kernel
theorem dX5_drawn_6 : decode cX5_drawn 6 = .ok (.i2l, 1) := by decide +kernel
theorem dX5_drawn_7 : decode cX5_drawn 7 = .ok (.lconst 0, 1) := by decide +kernel
theorem dX5_drawn_8 : decode cX5_drawn 8 = .ok (.ldc2_w 230, 3) := by decide +kernel
theorem dX5_drawn_11 : decode cX5_drawn 11 = .ok (.invokestatic 44, 3) := by decide +kernel
theorem dX5_drawn_14 : decode cX5_drawn 14 = .ok (.ifCond .eq 20, 3) := by decide +kernel
theorem dX5_drawn_17 : decode cX5_drawn 17 = .ok (.iload_n 3, 1) := by decide +kernel
theorem dX5_drawn_18 : decode cX5_drawn 18 = .ok (.invokestatic 156, 3) := by decide +kernel
theorem dX5_drawn_21 : decode cX5_drawn 21 = .ok (.ifCond .eq 13, 3) := by decide +kernel
theorem dX5_drawn_24 : decode cX5_drawn 24 = .ok (.aload_n 0, 1) := by decide +kernel
theorem dX5_drawn_25 : decode cX5_drawn 25 = .ok (.iload_n 1, 1) := by decide +kernel
theorem dX5_drawn_26 : decode cX5_drawn 26 = .ok (.iload_n 2, 1) := by decide +kernel
theorem dX5_drawn_27 : decode cX5_drawn 27 = .ok (.iload_n 3, 1) := by decide +kernel
theorem dX5_drawn_28 : decode cX5_drawn 28 = .ok (.invokevirtual 232, 3) := by decide +kernel
theorem dX5_drawn_31 : decode cX5_drawn 31 = .ok (.goto 5, 3) := by decide +kernel
theorem dX5_drawn_34 : decode cX5_drawn 34 = .ok (.bipush (-2), 2) := by decide +kernel
theorem dX5_drawn_36 : decode cX5_drawn 36 = .ok (.ireturn, 1) := by decide +kernel
theorem dX5_write_0 : decode cX5_write 0 = .ok (.iload_n 1, 1) := by decide +kernel
theorem dX5_write_1 : decode cX5_write 1 = .ok (.invokestatic 54, 3) := by decide +kernel
theorem dX5_write_4 : decode cX5_write 4 = .ok (.ifCond .ne 6, 3) := by decide +kernel
theorem dX5_write_7 : decode cX5_write 7 = .ok (.bipush (-2), 2) := by decide +kernel
theorem dX5_write_9 : decode cX5_write 9 = .ok (.ireturn, 1) := by decide +kernel
theorem dX5_write_10 : decode cX5_write 10 = .ok (.aload_n 0, 1) := by decide +kernel
theorem dX5_write_11 : decode cX5_write 11 = .ok (.getfield 7, 3) := by decide +kernel
theorem dX5_write_14 : decode cX5_write 14 = .ok (.iload_n 1, 1) := by decide +kernel
theorem dX5_write_15 : decode cX5_write 15 = .ok (.iaload, 1) := by decide +kernel
theorem dX5_write_16 : decode cX5_write 16 = .ok (.ifCond .ge 9, 3) := by decide +kernel
theorem dX5_write_19 : decode cX5_write 19 = .ok (.aload_n 0, 1) := by decide +kernel
theorem dX5_write_20 : decode cX5_write 20 = .ok (.iconst 1, 1) := by decide +kernel
theorem dX5_write_21 : decode cX5_write 21 = .ok (.invokevirtual 60, 3) := by decide +kernel
theorem dX5_write_24 : decode cX5_write 24 = .ok (.ireturn, 1) := by decide +kernel
theorem dX5_write_25 : decode cX5_write 25 = .ok (.aload_n 0, 1) := by decide +kernel
theorem dX5_write_26 : decode cX5_write 26 = .ok (.invokevirtual 144, 3) := by decide +kernel
theorem dX5_write_29 : decode cX5_write 29 = .ok (.aload_n 0, 1) := by decide +kernel
theorem dX5_write_30 : decode cX5_write 30 = .ok (.getfield 13, 3) := by decide +kernel
theorem dX5_write_33 : decode cX5_write 33 = .ok (.iload_n 1, 1) := by decide +kernel
theorem dX5_write_34 : decode cX5_write 34 = .ok (.iaload, 1) := by decide +kernel
theorem dX5_write_35 : decode cX5_write 35 = .ok (.aload_n 0, 1) := by decide +kernel
theorem dX5_write_36 : decode cX5_write 36 = .ok (.getfield 81, 3) := by decide +kernel
theorem dX5_write_39 : decode cX5_write 39 = .ok (.if_icmp .ge 12, 3) := by decide +kernel
theorem dX5_write_42 : decode cX5_write 42 = .ok (.aload_n 0, 1) := by decide +kernel
theorem dX5_write_43 : decode cX5_write 43 = .ok (.getfield 13, 3) := by decide +kernel
theorem dX5_write_46 : decode cX5_write 46 = .ok (.iload_n 1, 1) := by decide +kernel
theorem dX5_write_47 : decode cX5_write 47 = .ok (.iaload, 1) := by decide +kernel
theorem dX5_write_48 : decode cX5_write 48 = .ok (.goto 7, 3) := by decide +kernel
theorem dX5_write_51 : decode cX5_write 51 = .ok (.aload_n 0, 1) := by decide +kernel
theorem dX5_write_52 : decode cX5_write 52 = .ok (.getfield 81, 3) := by decide +kernel
theorem dX5_write_55 : decode cX5_write 55 = .ok (.istore_n 2, 1) := by decide +kernel
theorem dX5_write_56 : decode cX5_write 56 = .ok (.iconst 0, 1) := by decide +kernel
theorem dX5_write_57 : decode cX5_write 57 = .ok (.istore_n 3, 1) := by decide +kernel
theorem dX5_write_58 : decode cX5_write 58 = .ok (.iload_n 3, 1) := by decide +kernel
theorem dX5_write_59 : decode cX5_write 59 = .ok (.iload_n 2, 1) := by decide +kernel
theorem dX5_write_60 : decode cX5_write 60 = .ok (.if_icmp .ge 34, 3) := by decide +kernel
theorem dX5_write_63 : decode cX5_write 63 = .ok (.aload_n 0, 1) := by decide +kernel
theorem dX5_write_64 : decode cX5_write 64 = .ok (.getfield 16, 3) := by decide +kernel
theorem dX5_write_67 : decode cX5_write 67 = .ok (.bipush 60, 2) := by decide +kernel
theorem dX5_write_69 : decode cX5_write 69 = .ok (.iload_n 1, 1) := by decide +kernel
theorem dX5_write_70 : decode cX5_write 70 = .ok (.imul, 1) := by decide +kernel
theorem dX5_write_71 : decode cX5_write 71 = .ok (.iload_n 3, 1) := by decide +kernel
theorem dX5_write_72 : decode cX5_write 72 = .ok (.iadd, 1) := by decide +kernel
theorem dX5_write_73 : decode cX5_write 73 = .ok (.aload_n 0, 1) := by decide +kernel
theorem dX5_write_74 : decode cX5_write 74 = .ok (.getfield 7, 3) := by decide +kernel
theorem dX5_write_77 : decode cX5_write 77 = .ok (.iload_n 1, 1) := by decide +kernel
theorem dX5_write_78 : decode cX5_write 78 = .ok (.iaload, 1) := by decide +kernel
theorem dX5_write_79 : decode cX5_write 79 = .ok (.aload_n 0, 1) := by decide +kernel
theorem dX5_write_80 : decode cX5_write 80 = .ok (.iload_n 3, 1) := by decide +kernel
theorem dX5_write_81 : decode cX5_write 81 = .ok (.invokevirtual 162, 3) := by decide +kernel
theorem dX5_write_84 : decode cX5_write 84 = .ok (.invokestatic 68, 3) := by decide +kernel
theorem dX5_write_87 : decode cX5_write 87 = .ok (.iastore, 1) := by decide +kernel
theorem dX5_write_88 : decode cX5_write 88 = .ok (.iinc 3 1, 3) := by decide +kernel
theorem dX5_write_91 : decode cX5_write 91 = .ok (.goto (-33), 3) := by decide +kernel
theorem dX5_write_94 : decode cX5_write 94 = .ok (.iload_n 2, 1) := by decide +kernel
theorem dX5_write_95 : decode cX5_write 95 = .ok (.ireturn, 1) := by decide +kernel
theorem dX5_count_0 : decode cX5_count 0 = .ok (.iconst 0, 1) := by decide +kernel
theorem dX5_count_1 : decode cX5_count 1 = .ok (.istore_n 2, 1) := by decide +kernel
theorem dX5_count_2 : decode cX5_count 2 = .ok (.aload_n 0, 1) := by decide +kernel
theorem dX5_count_3 : decode cX5_count 3 = .ok (.invokevirtual 144, 3) := by decide +kernel
theorem dX5_count_6 : decode cX5_count 6 = .ok (.iload_n 1, 1) := by decide +kernel
theorem dX5_count_7 : decode cX5_count 7 = .ok (.tableswitch 134 0 8 #[49, 54, 59, 64, 69, 81, 93, 98, 129], 49) := by decide +kernel
theorem dX5_count_56 : decode cX5_count 56 = .ok (.aload_n 0, 1) := by decide +kernel
theorem dX5_count_57 : decode cX5_count 57 = .ok (.getfield 81, 3) := by decide +kernel
theorem dX5_count_60 : decode cX5_count 60 = .ok (.ireturn, 1) := by decide +kernel
theorem dX5_count_61 : decode cX5_count 61 = .ok (.aload_n 0, 1) := by decide +kernel
theorem dX5_count_62 : decode cX5_count 62 = .ok (.getfield 75, 3) := by decide +kernel
theorem dX5_count_65 : decode cX5_count 65 = .ok (.ireturn, 1) := by decide +kernel
theorem dX5_count_66 : decode cX5_count 66 = .ok (.aload_n 0, 1) := by decide +kernel
theorem dX5_count_67 : decode cX5_count 67 = .ok (.getfield 108, 3) := by decide +kernel
theorem dX5_count_70 : decode cX5_count 70 = .ok (.ireturn, 1) := by decide +kernel
theorem dX5_count_71 : decode cX5_count 71 = .ok (.aload_n 0, 1) := by decide +kernel
theorem dX5_count_72 : decode cX5_count 72 = .ok (.getfield 131, 3) := by decide +kernel
theorem dX5_count_75 : decode cX5_count 75 = .ok (.ireturn, 1) := by decide +kernel
theorem dX5_count_76 : decode cX5_count 76 = .ok (.aload_n 0, 1) := by decide +kernel
theorem dX5_count_77 : decode cX5_count 77 = .ok (.aload_n 0, 1) := by decide +kernel
theorem dX5_count_78 : decode cX5_count 78 = .ok (.getfield 108, 3) := by decide +kernel
theorem dX5_count_81 : decode cX5_count 81 = .ok (.invokevirtual 147, 3) := by decide +kernel
theorem dX5_count_84 : decode cX5_count 84 = .ok (.invokestatic 90, 3) := by decide +kernel
theorem dX5_count_87 : decode cX5_count 87 = .ok (.ireturn, 1) := by decide +kernel
theorem dX5_count_88 : decode cX5_count 88 = .ok (.aload_n 0, 1) := by decide +kernel
theorem dX5_count_89 : decode cX5_count 89 = .ok (.aload_n 0, 1) := by decide +kernel
theorem dX5_count_90 : decode cX5_count 90 = .ok (.getfield 108, 3) := by decide +kernel
theorem dX5_count_93 : decode cX5_count 93 = .ok (.invokevirtual 153, 3) := by decide +kernel
theorem dX5_count_96 : decode cX5_count 96 = .ok (.invokestatic 90, 3) := by decide +kernel
theorem dX5_count_99 : decode cX5_count 99 = .ok (.ireturn, 1) := by decide +kernel
theorem dX5_count_100 : decode cX5_count 100 = .ok (.aload_n 0, 1) := by decide +kernel
theorem dX5_count_101 : decode cX5_count 101 = .ok (.getfield 211, 3) := by decide +kernel
theorem dX5_count_104 : decode cX5_count 104 = .ok (.ireturn, 1) := by decide +kernel
theorem dX5_count_105 : decode cX5_count 105 = .ok (.iconst 0, 1) := by decide +kernel
theorem dX5_count_106 : decode cX5_count 106 = .ok (.istore_n 3, 1) := by decide +kernel
theorem dX5_count_107 : decode cX5_count 107 = .ok (.iload_n 3, 1) := by decide +kernel
theorem dX5_count_108 : decode cX5_count 108 = .ok (.aload_n 0, 1) := by decide +kernel
theorem dX5_count_109 : decode cX5_count 109 = .ok (.getfield 81, 3) := by decide +kernel
theorem dX5_count_112 : decode cX5_count 112 = .ok (.if_icmp .ge 22, 3) := by decide +kernel
theorem dX5_count_115 : decode cX5_count 115 = .ok (.iload_n 2, 1) := by decide +kernel
theorem dX5_count_116 : decode cX5_count 116 = .ok (.aload_n 0, 1) := by decide +kernel
theorem dX5_count_117 : decode cX5_count 117 = .ok (.getfield 25, 3) := by decide +kernel
theorem dX5_count_120 : decode cX5_count 120 = .ok (.iconst 3, 1) := by decide +kernel
theorem dX5_count_121 : decode cX5_count 121 = .ok (.iload_n 3, 1) := by decide +kernel
theorem dX5_count_122 : decode cX5_count 122 = .ok (.imul, 1) := by decide +kernel
theorem dX5_count_123 : decode cX5_count 123 = .ok (.iconst 2, 1) := by decide +kernel
theorem dX5_count_124 : decode cX5_count 124 = .ok (.iadd, 1) := by decide +kernel
theorem dX5_count_125 : decode cX5_count 125 = .ok (.iaload, 1) := by decide +kernel
theorem dX5_count_126 : decode cX5_count 126 = .ok (.iadd, 1) := by decide +kernel
theorem dX5_count_127 : decode cX5_count 127 = .ok (.istore_n 2, 1) := by decide +kernel
theorem dX5_count_128 : decode cX5_count 128 = .ok (.iinc 3 1, 3) := by decide +kernel
theorem dX5_count_131 : decode cX5_count 131 = .ok (.goto (-24), 3) := by decide +kernel
theorem dX5_count_134 : decode cX5_count 134 = .ok (.iload_n 2, 1) := by decide +kernel
theorem dX5_count_135 : decode cX5_count 135 = .ok (.ireturn, 1) := by decide +kernel
theorem dX5_count_136 : decode cX5_count 136 = .ok (.aload_n 0, 1) := by decide +kernel
theorem dX5_count_137 : decode cX5_count 137 = .ok (.getfield 48, 3) := by decide +kernel
theorem dX5_count_140 : decode cX5_count 140 = .ok (.ireturn, 1) := by decide +kernel
theorem dX5_count_141 : decode cX5_count 141 = .ok (.bipush (-2), 2) := by decide +kernel
theorem dX5_count_143 : decode cX5_count 143 = .ok (.ireturn, 1) := by decide +kernel
theorem dX5_digest_0 : decode cX5_digest 0 = .ok (.ldc2_w 235, 3) := by decide +kernel
theorem dX5_digest_3 : decode cX5_digest 3 = .ok (.lstore_n 1, 1) := by decide +kernel
theorem dX5_digest_4 : decode cX5_digest 4 = .ok (.iconst 0, 1) := by decide +kernel
theorem dX5_digest_5 : decode cX5_digest 5 = .ok (.istore_n 3, 1) := by decide +kernel
theorem dX5_digest_6 : decode cX5_digest 6 = .ok (.iload_n 3, 1) := by decide +kernel
theorem dX5_digest_7 : decode cX5_digest 7 = .ok (.bipush 8, 2) := by decide +kernel
theorem dX5_digest_9 : decode cX5_digest 9 = .ok (.if_icmp .ge 22, 3) := by decide +kernel
theorem dX5_digest_12 : decode cX5_digest 12 = .ok (.ldc2_w 237, 3) := by decide +kernel
theorem dX5_digest_15 : decode cX5_digest 15 = .ok (.lload_n 1, 1) := by decide +kernel
theorem dX5_digest_16 : decode cX5_digest 16 = .ok (.lmul, 1) := by decide +kernel
theorem dX5_digest_17 : decode cX5_digest 17 = .ok (.aload_n 0, 1) := by decide +kernel
theorem dX5_digest_18 : decode cX5_digest 18 = .ok (.iload_n 3, 1) := by decide +kernel
theorem dX5_digest_19 : decode cX5_digest 19 = .ok (.invokevirtual 239, 3) := by decide +kernel
theorem dX5_digest_22 : decode cX5_digest 22 = .ok (.i2l, 1) := by decide +kernel
theorem dX5_digest_23 : decode cX5_digest 23 = .ok (.ladd, 1) := by decide +kernel
theorem dX5_digest_24 : decode cX5_digest 24 = .ok (.lstore_n 1, 1) := by decide +kernel
theorem dX5_digest_25 : decode cX5_digest 25 = .ok (.iinc 3 1, 3) := by decide +kernel
theorem dX5_digest_28 : decode cX5_digest 28 = .ok (.goto (-22), 3) := by decide +kernel
theorem dX5_digest_31 : decode cX5_digest 31 = .ok (.ldc2_w 237, 3) := by decide +kernel
theorem dX5_digest_34 : decode cX5_digest 34 = .ok (.lload_n 1, 1) := by decide +kernel
theorem dX5_digest_35 : decode cX5_digest 35 = .ok (.lmul, 1) := by decide +kernel
theorem dX5_digest_36 : decode cX5_digest 36 = .ok (.aload_n 0, 1) := by decide +kernel
theorem dX5_digest_37 : decode cX5_digest 37 = .ok (.invokevirtual 100, 3) := by decide +kernel
theorem dX5_digest_40 : decode cX5_digest 40 = .ok (.i2l, 1) := by decide +kernel
theorem dX5_digest_41 : decode cX5_digest 41 = .ok (.ladd, 1) := by decide +kernel
theorem dX5_digest_42 : decode cX5_digest 42 = .ok (.lstore_n 1, 1) := by decide +kernel
theorem dX5_digest_43 : decode cX5_digest 43 = .ok (.ldc2_w 237, 3) := by decide +kernel
theorem dX5_digest_46 : decode cX5_digest 46 = .ok (.lload_n 1, 1) := by decide +kernel
theorem dX5_digest_47 : decode cX5_digest 47 = .ok (.lmul, 1) := by decide +kernel
theorem dX5_digest_48 : decode cX5_digest 48 = .ok (.aload_n 0, 1) := by decide +kernel
theorem dX5_digest_49 : decode cX5_digest 49 = .ok (.invokevirtual 242, 3) := by decide +kernel
theorem dX5_digest_52 : decode cX5_digest 52 = .ok (.i2l, 1) := by decide +kernel
theorem dX5_digest_53 : decode cX5_digest 53 = .ok (.ladd, 1) := by decide +kernel
theorem dX5_digest_54 : decode cX5_digest 54 = .ok (.lstore_n 1, 1) := by decide +kernel
theorem dX5_digest_55 : decode cX5_digest 55 = .ok (.iconst 0, 1) := by decide +kernel
theorem dX5_digest_56 : decode cX5_digest 56 = .ok (.istore_n 3, 1) := by decide +kernel
theorem dX5_digest_57 : decode cX5_digest 57 = .ok (.iload_n 3, 1) := by decide +kernel
theorem dX5_digest_58 : decode cX5_digest 58 = .ok (.aload_n 0, 1) := by decide +kernel
theorem dX5_digest_59 : decode cX5_digest 59 = .ok (.getfield 81, 3) := by decide +kernel
theorem dX5_digest_62 : decode cX5_digest 62 = .ok (.if_icmp .ge 56, 3) := by decide +kernel
theorem dX5_digest_65 : decode cX5_digest 65 = .ok (.iconst 0, 1) := by decide +kernel
theorem dX5_digest_66 : decode cX5_digest 66 = .ok (.istore 4, 2) := by decide +kernel
theorem dX5_digest_68 : decode cX5_digest 68 = .ok (.iload 4, 2) := by decide +kernel
theorem dX5_digest_70 : decode cX5_digest 70 = .ok (.iconst 3, 1) := by decide +kernel
theorem dX5_digest_71 : decode cX5_digest 71 = .ok (.if_icmp .ge 28, 3) := by decide +kernel
theorem dX5_digest_74 : decode cX5_digest 74 = .ok (.ldc2_w 237, 3) := by decide +kernel
theorem dX5_digest_77 : decode cX5_digest 77 = .ok (.lload_n 1, 1) := by decide +kernel
theorem dX5_digest_78 : decode cX5_digest 78 = .ok (.lmul, 1) := by decide +kernel
theorem dX5_digest_79 : decode cX5_digest 79 = .ok (.aload_n 0, 1) := by decide +kernel
theorem dX5_digest_80 : decode cX5_digest 80 = .ok (.getfield 25, 3) := by decide +kernel
theorem dX5_digest_83 : decode cX5_digest 83 = .ok (.iconst 3, 1) := by decide +kernel
theorem dX5_digest_84 : decode cX5_digest 84 = .ok (.iload_n 3, 1) := by decide +kernel
theorem dX5_digest_85 : decode cX5_digest 85 = .ok (.imul, 1) := by decide +kernel
theorem dX5_digest_86 : decode cX5_digest 86 = .ok (.iload 4, 2) := by decide +kernel
theorem dX5_digest_88 : decode cX5_digest 88 = .ok (.iadd, 1) := by decide +kernel
theorem dX5_digest_89 : decode cX5_digest 89 = .ok (.iaload, 1) := by decide +kernel
theorem dX5_digest_90 : decode cX5_digest 90 = .ok (.i2l, 1) := by decide +kernel
theorem dX5_digest_91 : decode cX5_digest 91 = .ok (.ladd, 1) := by decide +kernel
theorem dX5_digest_92 : decode cX5_digest 92 = .ok (.lstore_n 1, 1) := by decide +kernel
theorem dX5_digest_93 : decode cX5_digest 93 = .ok (.iinc 4 1, 3) := by decide +kernel
theorem dX5_digest_96 : decode cX5_digest 96 = .ok (.goto (-28), 3) := by decide +kernel
theorem dX5_digest_99 : decode cX5_digest 99 = .ok (.ldc2_w 237, 3) := by decide +kernel
theorem dX5_digest_102 : decode cX5_digest 102 = .ok (.lload_n 1, 1) := by decide +kernel
theorem dX5_digest_103 : decode cX5_digest 103 = .ok (.lmul, 1) := by decide +kernel
theorem dX5_digest_104 : decode cX5_digest 104 = .ok (.aload_n 0, 1) := by decide +kernel
theorem dX5_digest_105 : decode cX5_digest 105 = .ok (.iload_n 3, 1) := by decide +kernel
theorem dX5_digest_106 : decode cX5_digest 106 = .ok (.invokevirtual 162, 3) := by decide +kernel
theorem dX5_digest_109 : decode cX5_digest 109 = .ok (.i2l, 1) := by decide +kernel
theorem dX5_digest_110 : decode cX5_digest 110 = .ok (.ladd, 1) := by decide +kernel
theorem dX5_digest_111 : decode cX5_digest 111 = .ok (.lstore_n 1, 1) := by decide +kernel
theorem dX5_digest_112 : decode cX5_digest 112 = .ok (.iinc 3 1, 3) := by decide +kernel
theorem dX5_digest_115 : decode cX5_digest 115 = .ok (.goto (-58), 3) := by decide +kernel
theorem dX5_digest_118 : decode cX5_digest 118 = .ok (.iconst 0, 1) := by decide +kernel
theorem dX5_digest_119 : decode cX5_digest 119 = .ok (.istore_n 3, 1) := by decide +kernel
theorem dX5_digest_120 : decode cX5_digest 120 = .ok (.iload_n 3, 1) := by decide +kernel
theorem dX5_digest_121 : decode cX5_digest 121 = .ok (.aload_n 0, 1) := by decide +kernel
theorem dX5_digest_122 : decode cX5_digest 122 = .ok (.getfield 108, 3) := by decide +kernel
theorem dX5_digest_125 : decode cX5_digest 125 = .ok (.if_icmp .ge 63, 3) := by decide +kernel
theorem dX5_digest_128 : decode cX5_digest 128 = .ok (.ldc2_w 237, 3) := by decide +kernel
theorem dX5_digest_131 : decode cX5_digest 131 = .ok (.lload_n 1, 1) := by decide +kernel
theorem dX5_digest_132 : decode cX5_digest 132 = .ok (.lmul, 1) := by decide +kernel
theorem dX5_digest_133 : decode cX5_digest 133 = .ok (.aload_n 0, 1) := by decide +kernel
theorem dX5_digest_134 : decode cX5_digest 134 = .ok (.iload_n 3, 1) := by decide +kernel
theorem dX5_digest_135 : decode cX5_digest 135 = .ok (.invokevirtual 245, 3) := by decide +kernel
theorem dX5_digest_138 : decode cX5_digest 138 = .ok (.i2l, 1) := by decide +kernel
theorem dX5_digest_139 : decode cX5_digest 139 = .ok (.ladd, 1) := by decide +kernel
theorem dX5_digest_140 : decode cX5_digest 140 = .ok (.lstore_n 1, 1) := by decide +kernel
theorem dX5_digest_141 : decode cX5_digest 141 = .ok (.ldc2_w 237, 3) := by decide +kernel
theorem dX5_digest_144 : decode cX5_digest 144 = .ok (.lload_n 1, 1) := by decide +kernel
theorem dX5_digest_145 : decode cX5_digest 145 = .ok (.lmul, 1) := by decide +kernel
theorem dX5_digest_146 : decode cX5_digest 146 = .ok (.aload_n 0, 1) := by decide +kernel
theorem dX5_digest_147 : decode cX5_digest 147 = .ok (.iload_n 3, 1) := by decide +kernel
theorem dX5_digest_148 : decode cX5_digest 148 = .ok (.invokevirtual 165, 3) := by decide +kernel
theorem dX5_digest_151 : decode cX5_digest 151 = .ok (.i2l, 1) := by decide +kernel
theorem dX5_digest_152 : decode cX5_digest 152 = .ok (.ladd, 1) := by decide +kernel
theorem dX5_digest_153 : decode cX5_digest 153 = .ok (.lstore_n 1, 1) := by decide +kernel
theorem dX5_digest_154 : decode cX5_digest 154 = .ok (.ldc2_w 237, 3) := by decide +kernel
theorem dX5_digest_157 : decode cX5_digest 157 = .ok (.lload_n 1, 1) := by decide +kernel
theorem dX5_digest_158 : decode cX5_digest 158 = .ok (.lmul, 1) := by decide +kernel
theorem dX5_digest_159 : decode cX5_digest 159 = .ok (.aload_n 0, 1) := by decide +kernel
theorem dX5_digest_160 : decode cX5_digest 160 = .ok (.iload_n 3, 1) := by decide +kernel
theorem dX5_digest_161 : decode cX5_digest 161 = .ok (.iconst 0, 1) := by decide +kernel
theorem dX5_digest_162 : decode cX5_digest 162 = .ok (.invokevirtual 171, 3) := by decide +kernel
theorem dX5_digest_165 : decode cX5_digest 165 = .ok (.i2l, 1) := by decide +kernel
theorem dX5_digest_166 : decode cX5_digest 166 = .ok (.ladd, 1) := by decide +kernel
theorem dX5_digest_167 : decode cX5_digest 167 = .ok (.lstore_n 1, 1) := by decide +kernel
theorem dX5_digest_168 : decode cX5_digest 168 = .ok (.ldc2_w 237, 3) := by decide +kernel
theorem dX5_digest_171 : decode cX5_digest 171 = .ok (.lload_n 1, 1) := by decide +kernel
theorem dX5_digest_172 : decode cX5_digest 172 = .ok (.lmul, 1) := by decide +kernel
theorem dX5_digest_173 : decode cX5_digest 173 = .ok (.aload_n 0, 1) := by decide +kernel
theorem dX5_digest_174 : decode cX5_digest 174 = .ok (.iload_n 3, 1) := by decide +kernel
theorem dX5_digest_175 : decode cX5_digest 175 = .ok (.iconst 1, 1) := by decide +kernel
theorem dX5_digest_176 : decode cX5_digest 176 = .ok (.invokevirtual 171, 3) := by decide +kernel
theorem dX5_digest_179 : decode cX5_digest 179 = .ok (.i2l, 1) := by decide +kernel
theorem dX5_digest_180 : decode cX5_digest 180 = .ok (.ladd, 1) := by decide +kernel
theorem dX5_digest_181 : decode cX5_digest 181 = .ok (.lstore_n 1, 1) := by decide +kernel
theorem dX5_digest_182 : decode cX5_digest 182 = .ok (.iinc 3 1, 3) := by decide +kernel
theorem dX5_digest_185 : decode cX5_digest 185 = .ok (.goto (-65), 3) := by decide +kernel
theorem dX5_digest_188 : decode cX5_digest 188 = .ok (.iconst 0, 1) := by decide +kernel
theorem dX5_digest_189 : decode cX5_digest 189 = .ok (.istore_n 3, 1) := by decide +kernel
theorem dX5_digest_190 : decode cX5_digest 190 = .ok (.iload_n 3, 1) := by decide +kernel
theorem dX5_digest_191 : decode cX5_digest 191 = .ok (.aload_n 0, 1) := by decide +kernel
theorem dX5_digest_192 : decode cX5_digest 192 = .ok (.getfield 108, 3) := by decide +kernel
theorem dX5_digest_195 : decode cX5_digest 195 = .ok (.if_icmp .gt 37, 3) := by decide +kernel
theorem dX5_digest_198 : decode cX5_digest 198 = .ok (.ldc2_w 237, 3) := by decide +kernel
theorem dX5_digest_201 : decode cX5_digest 201 = .ok (.lload_n 1, 1) := by decide +kernel
theorem dX5_digest_202 : decode cX5_digest 202 = .ok (.lmul, 1) := by decide +kernel
theorem dX5_digest_203 : decode cX5_digest 203 = .ok (.aload_n 0, 1) := by decide +kernel
theorem dX5_digest_204 : decode cX5_digest 204 = .ok (.iload_n 3, 1) := by decide +kernel
theorem dX5_digest_205 : decode cX5_digest 205 = .ok (.iconst 0, 1) := by decide +kernel
theorem dX5_digest_206 : decode cX5_digest 206 = .ok (.invokevirtual 159, 3) := by decide +kernel
theorem dX5_digest_209 : decode cX5_digest 209 = .ok (.i2l, 1) := by decide +kernel
theorem dX5_digest_210 : decode cX5_digest 210 = .ok (.ladd, 1) := by decide +kernel
theorem dX5_digest_211 : decode cX5_digest 211 = .ok (.lstore_n 1, 1) := by decide +kernel
theorem dX5_digest_212 : decode cX5_digest 212 = .ok (.ldc2_w 237, 3) := by decide +kernel
theorem dX5_digest_215 : decode cX5_digest 215 = .ok (.lload_n 1, 1) := by decide +kernel
theorem dX5_digest_216 : decode cX5_digest 216 = .ok (.lmul, 1) := by decide +kernel
theorem dX5_digest_217 : decode cX5_digest 217 = .ok (.aload_n 0, 1) := by decide +kernel
theorem dX5_digest_218 : decode cX5_digest 218 = .ok (.iload_n 3, 1) := by decide +kernel
theorem dX5_digest_219 : decode cX5_digest 219 = .ok (.iconst 1, 1) := by decide +kernel
theorem dX5_digest_220 : decode cX5_digest 220 = .ok (.invokevirtual 159, 3) := by decide +kernel
theorem dX5_digest_223 : decode cX5_digest 223 = .ok (.i2l, 1) := by decide +kernel
theorem dX5_digest_224 : decode cX5_digest 224 = .ok (.ladd, 1) := by decide +kernel
theorem dX5_digest_225 : decode cX5_digest 225 = .ok (.lstore_n 1, 1) := by decide +kernel
theorem dX5_digest_226 : decode cX5_digest 226 = .ok (.iinc 3 1, 3) := by decide +kernel
theorem dX5_digest_229 : decode cX5_digest 229 = .ok (.goto (-39), 3) := by decide +kernel
theorem dX5_digest_232 : decode cX5_digest 232 = .ok (.ldc2_w 237, 3) := by decide +kernel
theorem dX5_digest_235 : decode cX5_digest 235 = .ok (.lload_n 1, 1) := by decide +kernel
theorem dX5_digest_236 : decode cX5_digest 236 = .ok (.lmul, 1) := by decide +kernel
theorem dX5_digest_237 : decode cX5_digest 237 = .ok (.aload_n 0, 1) := by decide +kernel
theorem dX5_digest_238 : decode cX5_digest 238 = .ok (.iconst 1, 1) := by decide +kernel
theorem dX5_digest_239 : decode cX5_digest 239 = .ok (.iconst 2, 1) := by decide +kernel
theorem dX5_digest_240 : decode cX5_digest 240 = .ok (.iconst 2, 1) := by decide +kernel
theorem dX5_digest_241 : decode cX5_digest 241 = .ok (.iconst 0, 1) := by decide +kernel
theorem dX5_digest_242 : decode cX5_digest 242 = .ok (.invokevirtual 186, 3) := by decide +kernel
theorem dX5_digest_245 : decode cX5_digest 245 = .ok (.i2l, 1) := by decide +kernel
theorem dX5_digest_246 : decode cX5_digest 246 = .ok (.ladd, 1) := by decide +kernel
theorem dX5_digest_247 : decode cX5_digest 247 = .ok (.lstore_n 1, 1) := by decide +kernel
theorem dX5_digest_248 : decode cX5_digest 248 = .ok (.ldc2_w 237, 3) := by decide +kernel
theorem dX5_digest_251 : decode cX5_digest 251 = .ok (.lload_n 1, 1) := by decide +kernel
theorem dX5_digest_252 : decode cX5_digest 252 = .ok (.lmul, 1) := by decide +kernel
theorem dX5_digest_253 : decode cX5_digest 253 = .ok (.aload_n 0, 1) := by decide +kernel
theorem dX5_digest_254 : decode cX5_digest 254 = .ok (.iconst 1, 1) := by decide +kernel
theorem dX5_digest_255 : decode cX5_digest 255 = .ok (.iconst 2, 1) := by decide +kernel
theorem dX5_digest_256 : decode cX5_digest 256 = .ok (.iconst 2, 1) := by decide +kernel
theorem dX5_digest_257 : decode cX5_digest 257 = .ok (.iconst 1, 1) := by decide +kernel
theorem dX5_digest_258 : decode cX5_digest 258 = .ok (.invokevirtual 186, 3) := by decide +kernel
theorem dX5_digest_261 : decode cX5_digest 261 = .ok (.i2l, 1) := by decide +kernel
theorem dX5_digest_262 : decode cX5_digest 262 = .ok (.ladd, 1) := by decide +kernel
theorem dX5_digest_263 : decode cX5_digest 263 = .ok (.lstore_n 1, 1) := by decide +kernel
theorem dX5_digest_264 : decode cX5_digest 264 = .ok (.iconst 0, 1) := by decide +kernel
theorem dX5_digest_265 : decode cX5_digest 265 = .ok (.istore_n 3, 1) := by decide +kernel
theorem dX5_digest_266 : decode cX5_digest 266 = .ok (.iload_n 3, 1) := by decide +kernel
theorem dX5_digest_267 : decode cX5_digest 267 = .ok (.iconst 3, 1) := by decide +kernel
theorem dX5_digest_268 : decode cX5_digest 268 = .ok (.if_icmp .ge 22, 3) := by decide +kernel
theorem dX5_digest_271 : decode cX5_digest 271 = .ok (.ldc2_w 237, 3) := by decide +kernel
theorem dX5_digest_274 : decode cX5_digest 274 = .ok (.lload_n 1, 1) := by decide +kernel
theorem dX5_digest_275 : decode cX5_digest 275 = .ok (.lmul, 1) := by decide +kernel
theorem dX5_digest_276 : decode cX5_digest 276 = .ok (.aload_n 0, 1) := by decide +kernel
theorem dX5_digest_277 : decode cX5_digest 277 = .ok (.iload_n 3, 1) := by decide +kernel
theorem dX5_digest_278 : decode cX5_digest 278 = .ok (.invokevirtual 193, 3) := by decide +kernel
theorem dX5_digest_281 : decode cX5_digest 281 = .ok (.i2l, 1) := by decide +kernel
theorem dX5_digest_282 : decode cX5_digest 282 = .ok (.ladd, 1) := by decide +kernel
theorem dX5_digest_283 : decode cX5_digest 283 = .ok (.lstore_n 1, 1) := by decide +kernel
theorem dX5_digest_284 : decode cX5_digest 284 = .ok (.iinc 3 1, 3) := by decide +kernel
theorem dX5_digest_287 : decode cX5_digest 287 = .ok (.goto (-21), 3) := by decide +kernel
theorem dX5_digest_290 : decode cX5_digest 290 = .ok (.iconst 0, 1) := by decide +kernel
theorem dX5_digest_291 : decode cX5_digest 291 = .ok (.istore_n 3, 1) := by decide +kernel
theorem dX5_digest_292 : decode cX5_digest 292 = .ok (.iload_n 3, 1) := by decide +kernel
theorem dX5_digest_293 : decode cX5_digest 293 = .ok (.iconst 4, 1) := by decide +kernel
theorem dX5_digest_294 : decode cX5_digest 294 = .ok (.if_icmp .ge 24, 3) := by decide +kernel
theorem dX5_digest_297 : decode cX5_digest 297 = .ok (.ldc2_w 237, 3) := by decide +kernel
theorem dX5_digest_300 : decode cX5_digest 300 = .ok (.lload_n 1, 1) := by decide +kernel
theorem dX5_digest_301 : decode cX5_digest 301 = .ok (.lmul, 1) := by decide +kernel
theorem dX5_digest_302 : decode cX5_digest 302 = .ok (.aload_n 0, 1) := by decide +kernel
theorem dX5_digest_303 : decode cX5_digest 303 = .ok (.iconst 0, 1) := by decide +kernel
theorem dX5_digest_304 : decode cX5_digest 304 = .ok (.iconst 1, 1) := by decide +kernel
theorem dX5_digest_305 : decode cX5_digest 305 = .ok (.iload_n 3, 1) := by decide +kernel
theorem dX5_digest_306 : decode cX5_digest 306 = .ok (.invokevirtual 208, 3) := by decide +kernel
theorem dX5_digest_309 : decode cX5_digest 309 = .ok (.i2l, 1) := by decide +kernel
theorem dX5_digest_310 : decode cX5_digest 310 = .ok (.ladd, 1) := by decide +kernel
theorem dX5_digest_311 : decode cX5_digest 311 = .ok (.lstore_n 1, 1) := by decide +kernel
theorem dX5_digest_312 : decode cX5_digest 312 = .ok (.iinc 3 1, 3) := by decide +kernel
theorem dX5_digest_315 : decode cX5_digest 315 = .ok (.goto (-23), 3) := by decide +kernel
theorem dX5_digest_318 : decode cX5_digest 318 = .ok (.ldc2_w 237, 3) := by decide +kernel
theorem dX5_digest_321 : decode cX5_digest 321 = .ok (.lload_n 1, 1) := by decide +kernel
theorem dX5_digest_322 : decode cX5_digest 322 = .ok (.lmul, 1) := by decide +kernel
theorem dX5_digest_323 : decode cX5_digest 323 = .ok (.aload_n 0, 1) := by decide +kernel
theorem dX5_digest_324 : decode cX5_digest 324 = .ok (.invokevirtual 214, 3) := by decide +kernel
theorem dX5_digest_327 : decode cX5_digest 327 = .ok (.i2l, 1) := by decide +kernel
theorem dX5_digest_328 : decode cX5_digest 328 = .ok (.ladd, 1) := by decide +kernel
theorem dX5_digest_329 : decode cX5_digest 329 = .ok (.lstore_n 1, 1) := by decide +kernel
theorem dX5_digest_330 : decode cX5_digest 330 = .ok (.iconst 0, 1) := by decide +kernel
theorem dX5_digest_331 : decode cX5_digest 331 = .ok (.istore_n 3, 1) := by decide +kernel
theorem dX5_digest_332 : decode cX5_digest 332 = .ok (.iload_n 3, 1) := by decide +kernel
theorem dX5_digest_333 : decode cX5_digest 333 = .ok (.iconst 2, 1) := by decide +kernel
theorem dX5_digest_334 : decode cX5_digest 334 = .ok (.if_icmp .ge 25, 3) := by decide +kernel
theorem dX5_digest_337 : decode cX5_digest 337 = .ok (.ldc2_w 237, 3) := by decide +kernel
theorem dX5_digest_340 : decode cX5_digest 340 = .ok (.lload_n 1, 1) := by decide +kernel
theorem dX5_digest_341 : decode cX5_digest 341 = .ok (.lmul, 1) := by decide +kernel
theorem dX5_digest_342 : decode cX5_digest 342 = .ok (.aload_n 0, 1) := by decide +kernel
theorem dX5_digest_343 : decode cX5_digest 343 = .ok (.bipush 7, 2) := by decide +kernel
theorem dX5_digest_345 : decode cX5_digest 345 = .ok (.iconst 3, 1) := by decide +kernel
theorem dX5_digest_346 : decode cX5_digest 346 = .ok (.iload_n 3, 1) := by decide +kernel
theorem dX5_digest_347 : decode cX5_digest 347 = .ok (.invokevirtual 232, 3) := by decide +kernel
theorem dX5_digest_350 : decode cX5_digest 350 = .ok (.i2l, 1) := by decide +kernel
theorem dX5_digest_351 : decode cX5_digest 351 = .ok (.ladd, 1) := by decide +kernel
theorem dX5_digest_352 : decode cX5_digest 352 = .ok (.lstore_n 1, 1) := by decide +kernel
theorem dX5_digest_353 : decode cX5_digest 353 = .ok (.iinc 3 1, 3) := by decide +kernel
theorem dX5_digest_356 : decode cX5_digest 356 = .ok (.goto (-24), 3) := by decide +kernel
theorem dX5_digest_359 : decode cX5_digest 359 = .ok (.lload_n 1, 1) := by decide +kernel
theorem dX5_digest_360 : decode cX5_digest 360 = .ok (.lreturn, 1) := by decide +kernel
