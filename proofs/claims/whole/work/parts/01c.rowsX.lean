theorem dX0_init_0 : decode cX0_init 0 = .ok (.aload_n 0, 1) := by decide +kernel
theorem dX0_init_1 : decode cX0_init 1 = .ok (.invokespecial 3, 3) := by decide +kernel
theorem dX0_init_4 : decode cX0_init 4 = .ok (.aload_n 0, 1) := by decide +kernel
theorem dX0_init_5 : decode cX0_init 5 = .ok (.bipush 60, 2) := by decide +kernel
theorem dX0_init_7 : decode cX0_init 7 = .ok (.newarray .int, 2) := by decide +kernel
theorem dX0_init_9 : decode cX0_init 9 = .ok (.putfield 9, 3) := by decide +kernel
theorem dX0_init_12 : decode cX0_init 12 = .ok (.aload_n 0, 1) := by decide +kernel
theorem dX0_init_13 : decode cX0_init 13 = .ok (.bipush 12, 2) := by decide +kernel
theorem dX0_init_15 : decode cX0_init 15 = .ok (.newarray .int, 2) := by decide +kernel
theorem dX0_init_17 : decode cX0_init 17 = .ok (.putfield 15, 3) := by decide +kernel
theorem dX0_init_20 : decode cX0_init 20 = .ok (.aload_n 0, 1) := by decide +kernel
theorem dX0_init_21 : decode cX0_init 21 = .ok (.bipush 12, 2) := by decide +kernel
theorem dX0_init_23 : decode cX0_init 23 = .ok (.newarray .int, 2) := by decide +kernel
theorem dX0_init_25 : decode cX0_init 25 = .ok (.putfield 18, 3) := by decide +kernel
theorem dX0_init_28 : decode cX0_init 28 = .ok (.aload_n 0, 1) := by decide +kernel
theorem dX0_init_29 : decode cX0_init 29 = .ok (.iconst (-1), 1) := by decide +kernel
theorem dX0_init_30 : decode cX0_init 30 = .ok (.putfield 21, 3) := by decide +kernel
theorem dX0_init_33 : decode cX0_init 33 = .ok (.return_, 1) := by decide +kernel
theorem dX0_append_0 : decode cX0_append 0 = .ok (.aload_n 0, 1) := by decide +kernel
theorem dX0_append_1 : decode cX0_append 1 = .ok (.getfield 25, 3) := by decide +kernel
theorem dX0_append_4 : decode cX0_append 4 = .ok (.bipush 60, 2) := by decide +kernel
theorem dX0_append_6 : decode cX0_append 6 = .ok (.if_icmp .ge 23, 3) := by decide +kernel
theorem dX0_append_9 : decode cX0_append 9 = .ok (.aload_n 0, 1) := by decide +kernel
theorem dX0_append_10 : decode cX0_append 10 = .ok (.getfield 9, 3) := by decide +kernel
theorem dX0_append_13 : decode cX0_append 13 = .ok (.aload_n 0, 1) := by decide +kernel
theorem dX0_append_14 : decode cX0_append 14 = .ok (.getfield 25, 3) := by decide +kernel
theorem dX0_append_17 : decode cX0_append 17 = .ok (.iload_n 1, 1) := by decide +kernel
theorem dX0_append_18 : decode cX0_append 18 = .ok (.iastore, 1) := by decide +kernel
theorem dX0_append_19 : decode cX0_append 19 = .ok (.aload_n 0, 1) := by decide +kernel
theorem dX0_append_20 : decode cX0_append 20 = .ok (.dup, 1) := by decide +kernel
theorem dX0_append_21 : decode cX0_append 21 = .ok (.getfield 25, 3) := by decide +kernel
theorem dX0_append_24 : decode cX0_append 24 = .ok (.iconst 1, 1) := by decide +kernel
theorem dX0_append_25 : decode cX0_append 25 = .ok (.iadd, 1) := by decide +kernel
theorem dX0_append_26 : decode cX0_append 26 = .ok (.putfield 25, 3) := by decide +kernel
theorem dX0_append_29 : decode cX0_append 29 = .ok (.aload_n 0, 1) := by decide +kernel
theorem dX0_append_30 : decode cX0_append 30 = .ok (.invokevirtual 28, 3) := by decide +kernel
theorem dX0_append_33 : decode cX0_append 33 = .ok (.aload_n 0, 1) := by decide +kernel
theorem dX0_append_34 : decode cX0_append 34 = .ok (.getfield 25, 3) := by decide +kernel
theorem dX0_append_37 : decode cX0_append 37 = .ok (.ireturn, 1) := by decide +kernel
theorem dX0_clear_0 : decode cX0_clear 0 = .ok (.aload_n 0, 1) := by decide +kernel
theorem dX0_clear_1 : decode cX0_clear 1 = .ok (.getfield 25, 3) := by decide +kernel
theorem dX0_clear_4 : decode cX0_clear 4 = .ok (.istore_n 1, 1) := by decide +kernel
theorem dX0_clear_5 : decode cX0_clear 5 = .ok (.aload_n 0, 1) := by decide +kernel
theorem dX0_clear_6 : decode cX0_clear 6 = .ok (.iconst 0, 1) := by decide +kernel
theorem dX0_clear_7 : decode cX0_clear 7 = .ok (.putfield 25, 3) := by decide +kernel
theorem dX0_clear_10 : decode cX0_clear 10 = .ok (.aload_n 0, 1) := by decide +kernel
theorem dX0_clear_11 : decode cX0_clear 11 = .ok (.invokevirtual 28, 3) := by decide +kernel
theorem dX0_clear_14 : decode cX0_clear 14 = .ok (.iload_n 1, 1) := by decide +kernel
theorem dX0_clear_15 : decode cX0_clear 15 = .ok (.ireturn, 1) := by decide +kernel
theorem dX0_parse_0 : decode cX0_parse 0 = .ok (.aload_n 0, 1) := by decide +kernel
theorem dX0_parse_1 : decode cX0_parse 1 = .ok (.iconst 0, 1) := by decide +kernel
theorem dX0_parse_2 : decode cX0_parse 2 = .ok (.putfield 31, 3) := by decide +kernel
theorem dX0_parse_5 : decode cX0_parse 5 = .ok (.aload_n 0, 1) := by decide +kernel
theorem dX0_parse_6 : decode cX0_parse 6 = .ok (.iconst 0, 1) := by decide +kernel
theorem dX0_parse_7 : decode cX0_parse 7 = .ok (.putfield 34, 3) := by decide +kernel
theorem dX0_parse_10 : decode cX0_parse 10 = .ok (.aload_n 0, 1) := by decide +kernel
theorem dX0_parse_11 : decode cX0_parse 11 = .ok (.iconst (-1), 1) := by decide +kernel
theorem dX0_parse_12 : decode cX0_parse 12 = .ok (.putfield 21, 3) := by decide +kernel
theorem dX0_parse_15 : decode cX0_parse 15 = .ok (.iconst 0, 1) := by decide +kernel
theorem dX0_parse_16 : decode cX0_parse 16 = .ok (.istore_n 1, 1) := by decide +kernel
theorem dX0_parse_17 : decode cX0_parse 17 = .ok (.iconst 0, 1) := by decide +kernel
theorem dX0_parse_18 : decode cX0_parse 18 = .ok (.istore_n 2, 1) := by decide +kernel
theorem dX0_parse_19 : decode cX0_parse 19 = .ok (.iload_n 1, 1) := by decide +kernel
theorem dX0_parse_20 : decode cX0_parse 20 = .ok (.aload_n 0, 1) := by decide +kernel
theorem dX0_parse_21 : decode cX0_parse 21 = .ok (.getfield 25, 3) := by decide +kernel
theorem dX0_parse_24 : decode cX0_parse 24 = .ok (.if_icmp .ge 46, 3) := by decide +kernel
theorem dX0_parse_27 : decode cX0_parse 27 = .ok (.iload_n 2, 1) := by decide +kernel
theorem dX0_parse_28 : decode cX0_parse 28 = .ok (.ifCond .ne 16, 3) := by decide +kernel
theorem dX0_parse_31 : decode cX0_parse 31 = .ok (.aload_n 0, 1) := by decide +kernel
theorem dX0_parse_32 : decode cX0_parse 32 = .ok (.aload_n 0, 1) := by decide +kernel
theorem dX0_parse_33 : decode cX0_parse 33 = .ok (.getfield 9, 3) := by decide +kernel
theorem dX0_parse_36 : decode cX0_parse 36 = .ok (.iload_n 1, 1) := by decide +kernel
theorem dX0_parse_37 : decode cX0_parse 37 = .ok (.iaload, 1) := by decide +kernel
theorem dX0_parse_38 : decode cX0_parse 38 = .ok (.invokevirtual 37, 3) := by decide +kernel
theorem dX0_parse_41 : decode cX0_parse 41 = .ok (.goto 14, 3) := by decide +kernel
theorem dX0_parse_44 : decode cX0_parse 44 = .ok (.aload_n 0, 1) := by decide +kernel
theorem dX0_parse_45 : decode cX0_parse 45 = .ok (.aload_n 0, 1) := by decide +kernel
theorem dX0_parse_46 : decode cX0_parse 46 = .ok (.getfield 9, 3) := by decide +kernel
theorem dX0_parse_49 : decode cX0_parse 49 = .ok (.iload_n 1, 1) := by decide +kernel
theorem dX0_parse_50 : decode cX0_parse 50 = .ok (.iaload, 1) := by decide +kernel
theorem dX0_parse_51 : decode cX0_parse 51 = .ok (.iload_n 2, 1) := by decide +kernel
theorem dX0_parse_52 : decode cX0_parse 52 = .ok (.invokevirtual 41, 3) := by decide +kernel
theorem dX0_parse_55 : decode cX0_parse 55 = .ok (.istore_n 2, 1) := by decide +kernel
theorem dX0_parse_56 : decode cX0_parse 56 = .ok (.iload_n 2, 1) := by decide +kernel
theorem dX0_parse_57 : decode cX0_parse 57 = .ok (.iconst 3, 1) := by decide +kernel
theorem dX0_parse_58 : decode cX0_parse 58 = .ok (.if_icmp .ne 6, 3) := by decide +kernel
theorem dX0_parse_61 : decode cX0_parse 61 = .ok (.goto 9, 3) := by decide +kernel
theorem dX0_parse_64 : decode cX0_parse 64 = .ok (.iinc 1 1, 3) := by decide +kernel
theorem dX0_parse_67 : decode cX0_parse 67 = .ok (.goto (-48), 3) := by decide +kernel
theorem dX0_parse_70 : decode cX0_parse 70 = .ok (.iload_n 2, 1) := by decide +kernel
theorem dX0_parse_71 : decode cX0_parse 71 = .ok (.iconst 3, 1) := by decide +kernel
theorem dX0_parse_72 : decode cX0_parse 72 = .ok (.if_icmp .eq 14, 3) := by decide +kernel
theorem dX0_parse_75 : decode cX0_parse 75 = .ok (.iload_n 2, 1) := by decide +kernel
theorem dX0_parse_76 : decode cX0_parse 76 = .ok (.ifCond .ne 25, 3) := by decide +kernel
theorem dX0_parse_79 : decode cX0_parse 79 = .ok (.aload_n 0, 1) := by decide +kernel
theorem dX0_parse_80 : decode cX0_parse 80 = .ok (.getfield 25, 3) := by decide +kernel
theorem dX0_parse_83 : decode cX0_parse 83 = .ok (.ifCond .le 18, 3) := by decide +kernel
theorem dX0_parse_86 : decode cX0_parse 86 = .ok (.aload_n 0, 1) := by decide +kernel
theorem dX0_parse_87 : decode cX0_parse 87 = .ok (.iload_n 1, 1) := by decide +kernel
theorem dX0_parse_88 : decode cX0_parse 88 = .ok (.putfield 21, 3) := by decide +kernel
theorem dX0_parse_91 : decode cX0_parse 91 = .ok (.aload_n 0, 1) := by decide +kernel
theorem dX0_parse_92 : decode cX0_parse 92 = .ok (.iconst 0, 1) := by decide +kernel
theorem dX0_parse_93 : decode cX0_parse 93 = .ok (.putfield 31, 3) := by decide +kernel
theorem dX0_parse_96 : decode cX0_parse 96 = .ok (.aload_n 0, 1) := by decide +kernel
theorem dX0_parse_97 : decode cX0_parse 97 = .ok (.iconst 0, 1) := by decide +kernel
theorem dX0_parse_98 : decode cX0_parse 98 = .ok (.putfield 34, 3) := by decide +kernel
theorem dX0_parse_101 : decode cX0_parse 101 = .ok (.return_, 1) := by decide +kernel
theorem dX0_begin_0 : decode cX0_begin 0 = .ok (.iload_n 1, 1) := by decide +kernel
theorem dX0_begin_1 : decode cX0_begin 1 = .ok (.bipush 48, 2) := by decide +kernel
theorem dX0_begin_3 : decode cX0_begin 3 = .ok (.isub, 1) := by decide +kernel
theorem dX0_begin_4 : decode cX0_begin 4 = .ok (.istore_n 2, 1) := by decide +kernel
theorem dX0_begin_5 : decode cX0_begin 5 = .ok (.aload_n 0, 1) := by decide +kernel
theorem dX0_begin_6 : decode cX0_begin 6 = .ok (.getfield 31, 3) := by decide +kernel
theorem dX0_begin_9 : decode cX0_begin 9 = .ok (.bipush 12, 2) := by decide +kernel
theorem dX0_begin_11 : decode cX0_begin 11 = .ok (.if_icmp .ge 12, 3) := by decide +kernel
theorem dX0_begin_14 : decode cX0_begin 14 = .ok (.iload_n 2, 1) := by decide +kernel
theorem dX0_begin_15 : decode cX0_begin 15 = .ok (.bipush 6, 2) := by decide +kernel
theorem dX0_begin_17 : decode cX0_begin 17 = .ok (.invokestatic 45, 3) := by decide +kernel
theorem dX0_begin_20 : decode cX0_begin 20 = .ok (.ifCond .ne 5, 3) := by decide +kernel
theorem dX0_begin_23 : decode cX0_begin 23 = .ok (.iconst 3, 1) := by decide +kernel
theorem dX0_begin_24 : decode cX0_begin 24 = .ok (.ireturn, 1) := by decide +kernel
theorem dX0_begin_25 : decode cX0_begin 25 = .ok (.aload_n 0, 1) := by decide +kernel
theorem dX0_begin_26 : decode cX0_begin 26 = .ok (.getfield 15, 3) := by decide +kernel
theorem dX0_begin_29 : decode cX0_begin 29 = .ok (.aload_n 0, 1) := by decide +kernel
theorem dX0_begin_30 : decode cX0_begin 30 = .ok (.getfield 31, 3) := by decide +kernel
theorem dX0_begin_33 : decode cX0_begin 33 = .ok (.iload_n 2, 1) := by decide +kernel
theorem dX0_begin_34 : decode cX0_begin 34 = .ok (.iastore, 1) := by decide +kernel
theorem dX0_begin_35 : decode cX0_begin 35 = .ok (.aload_n 0, 1) := by decide +kernel
theorem dX0_begin_36 : decode cX0_begin 36 = .ok (.getfield 18, 3) := by decide +kernel
theorem dX0_begin_39 : decode cX0_begin 39 = .ok (.aload_n 0, 1) := by decide +kernel
theorem dX0_begin_40 : decode cX0_begin 40 = .ok (.getfield 31, 3) := by decide +kernel
theorem dX0_begin_43 : decode cX0_begin 43 = .ok (.iconst 0, 1) := by decide +kernel
theorem dX0_begin_44 : decode cX0_begin 44 = .ok (.iastore, 1) := by decide +kernel
theorem dX0_begin_45 : decode cX0_begin 45 = .ok (.aload_n 0, 1) := by decide +kernel
theorem dX0_begin_46 : decode cX0_begin 46 = .ok (.dup, 1) := by decide +kernel
theorem dX0_begin_47 : decode cX0_begin 47 = .ok (.getfield 31, 3) := by decide +kernel
theorem dX0_begin_50 : decode cX0_begin 50 = .ok (.iconst 1, 1) := by decide +kernel
theorem dX0_begin_51 : decode cX0_begin 51 = .ok (.iadd, 1) := by decide +kernel
theorem dX0_begin_52 : decode cX0_begin 52 = .ok (.putfield 31, 3) := by decide +kernel
theorem dX0_begin_55 : decode cX0_begin 55 = .ok (.iconst 1, 1) := by decide +kernel
theorem dX0_begin_56 : decode cX0_begin 56 = .ok (.ireturn, 1) := by decide +kernel
theorem dX0_goOn_0 : decode cX0_goOn 0 = .ok (.aload_n 0, 1) := by decide +kernel
theorem dX0_goOn_1 : decode cX0_goOn 1 = .ok (.getfield 31, 3) := by decide +kernel
theorem dX0_goOn_4 : decode cX0_goOn 4 = .ok (.iconst 1, 1) := by decide +kernel
theorem dX0_goOn_5 : decode cX0_goOn 5 = .ok (.isub, 1) := by decide +kernel
theorem dX0_goOn_6 : decode cX0_goOn 6 = .ok (.istore_n 3, 1) := by decide +kernel
theorem dX0_goOn_7 : decode cX0_goOn 7 = .ok (.iload_n 1, 1) := by decide +kernel
theorem dX0_goOn_8 : decode cX0_goOn 8 = .ok (.bipush 59, 2) := by decide +kernel
theorem dX0_goOn_10 : decode cX0_goOn 10 = .ok (.if_icmp .ne 5, 3) := by decide +kernel
theorem dX0_goOn_13 : decode cX0_goOn 13 = .ok (.iconst 0, 1) := by decide +kernel
theorem dX0_goOn_14 : decode cX0_goOn 14 = .ok (.ireturn, 1) := by decide +kernel
theorem dX0_goOn_15 : decode cX0_goOn 15 = .ok (.iload_n 2, 1) := by decide +kernel
theorem dX0_goOn_16 : decode cX0_goOn 16 = .ok (.iconst 2, 1) := by decide +kernel
theorem dX0_goOn_17 : decode cX0_goOn 17 = .ok (.if_icmp .eq 12, 3) := by decide +kernel
theorem dX0_goOn_20 : decode cX0_goOn 20 = .ok (.iload_n 3, 1) := by decide +kernel
theorem dX0_goOn_21 : decode cX0_goOn 21 = .ok (.bipush 12, 2) := by decide +kernel
theorem dX0_goOn_23 : decode cX0_goOn 23 = .ok (.invokestatic 45, 3) := by decide +kernel
theorem dX0_goOn_26 : decode cX0_goOn 26 = .ok (.ifCond .ne 5, 3) := by decide +kernel
theorem dX0_goOn_29 : decode cX0_goOn 29 = .ok (.iconst 3, 1) := by decide +kernel
theorem dX0_goOn_30 : decode cX0_goOn 30 = .ok (.ireturn, 1) := by decide +kernel
theorem dX0_goOn_31 : decode cX0_goOn 31 = .ok (.iload_n 1, 1) := by decide +kernel
theorem dX0_goOn_32 : decode cX0_goOn 32 = .ok (.bipush 33, 2) := by decide +kernel
theorem dX0_goOn_34 : decode cX0_goOn 34 = .ok (.if_icmp .ne 17, 3) := by decide +kernel
theorem dX0_goOn_37 : decode cX0_goOn 37 = .ok (.aload_n 0, 1) := by decide +kernel
theorem dX0_goOn_38 : decode cX0_goOn 38 = .ok (.dup, 1) := by decide +kernel
theorem dX0_goOn_39 : decode cX0_goOn 39 = .ok (.getfield 34, 3) := by decide +kernel
theorem dX0_goOn_42 : decode cX0_goOn 42 = .ok (.iconst 1, 1) := by decide +kernel
theorem dX0_goOn_43 : decode cX0_goOn 43 = .ok (.iload_n 3, 1) := by decide +kernel
theorem dX0_goOn_44 : decode cX0_goOn 44 = .ok (.ishl, 1) := by decide +kernel
theorem dX0_goOn_45 : decode cX0_goOn 45 = .ok (.ior, 1) := by decide +kernel
theorem dX0_goOn_46 : decode cX0_goOn 46 = .ok (.putfield 34, 3) := by decide +kernel
theorem dX0_goOn_49 : decode cX0_goOn 49 = .ok (.iconst 2, 1) := by decide +kernel
theorem dX0_goOn_50 : decode cX0_goOn 50 = .ok (.ireturn, 1) := by decide +kernel
theorem dX0_goOn_51 : decode cX0_goOn 51 = .ok (.iload_n 1, 1) := by decide +kernel
theorem dX0_goOn_52 : decode cX0_goOn 52 = .ok (.bipush 97, 2) := by decide +kernel
theorem dX0_goOn_54 : decode cX0_goOn 54 = .ok (.isub, 1) := by decide +kernel
theorem dX0_goOn_55 : decode cX0_goOn 55 = .ok (.istore 4, 2) := by decide +kernel
theorem dX0_goOn_57 : decode cX0_goOn 57 = .ok (.iload 4, 2) := by decide +kernel
theorem dX0_goOn_59 : decode cX0_goOn 59 = .ok (.iload_n 3, 1) := by decide +kernel
theorem dX0_goOn_60 : decode cX0_goOn 60 = .ok (.invokestatic 45, 3) := by decide +kernel
theorem dX0_goOn_63 : decode cX0_goOn 63 = .ok (.ifCond .eq 19, 3) := by decide +kernel
theorem dX0_goOn_66 : decode cX0_goOn 66 = .ok (.aload_n 0, 1) := by decide +kernel
theorem dX0_goOn_67 : decode cX0_goOn 67 = .ok (.getfield 18, 3) := by decide +kernel
theorem dX0_goOn_70 : decode cX0_goOn 70 = .ok (.iload_n 3, 1) := by decide +kernel
theorem dX0_goOn_71 : decode cX0_goOn 71 = .ok (.iaload, 1) := by decide +kernel
theorem dX0_goOn_72 : decode cX0_goOn 72 = .ok (.iload 4, 2) := by decide +kernel
theorem dX0_goOn_74 : decode cX0_goOn 74 = .ok (.ishr, 1) := by decide +kernel
theorem dX0_goOn_75 : decode cX0_goOn 75 = .ok (.ifCond .ne 7, 3) := by decide +kernel
theorem dX0_goOn_78 : decode cX0_goOn 78 = .ok (.iconst 1, 1) := by decide +kernel
theorem dX0_goOn_79 : decode cX0_goOn 79 = .ok (.goto 4, 3) := by decide +kernel
theorem dX0_goOn_82 : decode cX0_goOn 82 = .ok (.iconst 0, 1) := by decide +kernel
theorem dX0_goOn_83 : decode cX0_goOn 83 = .ok (.istore 5, 2) := by decide +kernel
theorem dX0_goOn_85 : decode cX0_goOn 85 = .ok (.iload 5, 2) := by decide +kernel
theorem dX0_goOn_87 : decode cX0_goOn 87 = .ok (.ifCond .eq 16, 3) := by decide +kernel
theorem dX0_goOn_90 : decode cX0_goOn 90 = .ok (.aload_n 0, 1) := by decide +kernel
theorem dX0_goOn_91 : decode cX0_goOn 91 = .ok (.getfield 18, 3) := by decide +kernel
theorem dX0_goOn_94 : decode cX0_goOn 94 = .ok (.iload_n 3, 1) := by decide +kernel
theorem dX0_goOn_95 : decode cX0_goOn 95 = .ok (.iaload, 1) := by decide +kernel
theorem dX0_goOn_96 : decode cX0_goOn 96 = .ok (.invokestatic 49, 3) := by decide +kernel
theorem dX0_goOn_99 : decode cX0_goOn 99 = .ok (.iconst 3, 1) := by decide +kernel
theorem dX0_goOn_100 : decode cX0_goOn 100 = .ok (.if_icmp .lt 5, 3) := by decide +kernel
theorem dX0_goOn_103 : decode cX0_goOn 103 = .ok (.iconst 3, 1) := by decide +kernel
theorem dX0_goOn_104 : decode cX0_goOn 104 = .ok (.ireturn, 1) := by decide +kernel
theorem dX0_goOn_105 : decode cX0_goOn 105 = .ok (.aload_n 0, 1) := by decide +kernel
theorem dX0_goOn_106 : decode cX0_goOn 106 = .ok (.getfield 18, 3) := by decide +kernel
theorem dX0_goOn_109 : decode cX0_goOn 109 = .ok (.iload_n 3, 1) := by decide +kernel
theorem dX0_goOn_110 : decode cX0_goOn 110 = .ok (.dup2, 1) := by decide +kernel
theorem dX0_goOn_111 : decode cX0_goOn 111 = .ok (.iaload, 1) := by decide +kernel
theorem dX0_goOn_112 : decode cX0_goOn 112 = .ok (.iconst 1, 1) := by decide +kernel
theorem dX0_goOn_113 : decode cX0_goOn 113 = .ok (.iload 4, 2) := by decide +kernel
theorem dX0_goOn_115 : decode cX0_goOn 115 = .ok (.ishl, 1) := by decide +kernel
theorem dX0_goOn_116 : decode cX0_goOn 116 = .ok (.ior, 1) := by decide +kernel
theorem dX0_goOn_117 : decode cX0_goOn 117 = .ok (.iastore, 1) := by decide +kernel
theorem dX0_goOn_118 : decode cX0_goOn 118 = .ok (.iconst 1, 1) := by decide +kernel
theorem dX0_goOn_119 : decode cX0_goOn 119 = .ok (.ireturn, 1) := by decide +kernel
theorem dX0_standing_0 : decode cX0_standing 0 = .ok (.aload_n 0, 1) := by decide +kernel
theorem dX0_standing_1 : decode cX0_standing 1 = .ok (.getfield 31, 3) := by decide +kernel
theorem dX0_standing_4 : decode cX0_standing 4 = .ok (.invokestatic 54, 3) := by decide +kernel
theorem dX0_standing_7 : decode cX0_standing 7 = .ok (.aload_n 0, 1) := by decide +kernel
theorem dX0_standing_8 : decode cX0_standing 8 = .ok (.iload_n 1, 1) := by decide +kernel
theorem dX0_standing_9 : decode cX0_standing 9 = .ok (.invokevirtual 57, 3) := by decide +kernel
theorem dX0_standing_12 : decode cX0_standing 12 = .ok (.iconst (-1), 1) := by decide +kernel
theorem dX0_standing_13 : decode cX0_standing 13 = .ok (.ixor, 1) := by decide +kernel
theorem dX0_standing_14 : decode cX0_standing 14 = .ok (.iand, 1) := by decide +kernel
theorem dX0_standing_15 : decode cX0_standing 15 = .ok (.ireturn, 1) := by decide +kernel
theorem dX0_fallen_0 : decode cX0_fallen 0 = .ok (.iload_n 1, 1) := by decide +kernel
theorem dX0_fallen_1 : decode cX0_fallen 1 = .ok (.istore_n 2, 1) := by decide +kernel
theorem dX0_fallen_2 : decode cX0_fallen 2 = .ok (.iconst 0, 1) := by decide +kernel
theorem dX0_fallen_3 : decode cX0_fallen 3 = .ok (.istore_n 3, 1) := by decide +kernel
theorem dX0_fallen_4 : decode cX0_fallen 4 = .ok (.iload_n 3, 1) := by decide +kernel
theorem dX0_fallen_5 : decode cX0_fallen 5 = .ok (.aload_n 0, 1) := by decide +kernel
theorem dX0_fallen_6 : decode cX0_fallen 6 = .ok (.getfield 31, 3) := by decide +kernel
theorem dX0_fallen_9 : decode cX0_fallen 9 = .ok (.if_icmp .ge 37, 3) := by decide +kernel
theorem dX0_fallen_12 : decode cX0_fallen 12 = .ok (.aload_n 0, 1) := by decide +kernel
theorem dX0_fallen_13 : decode cX0_fallen 13 = .ok (.getfield 34, 3) := by decide +kernel
theorem dX0_fallen_16 : decode cX0_fallen 16 = .ok (.iload_n 3, 1) := by decide +kernel
theorem dX0_fallen_17 : decode cX0_fallen 17 = .ok (.ishr, 1) := by decide +kernel
theorem dX0_fallen_18 : decode cX0_fallen 18 = .ok (.iconst 1, 1) := by decide +kernel
theorem dX0_fallen_19 : decode cX0_fallen 19 = .ok (.iand, 1) := by decide +kernel
theorem dX0_fallen_20 : decode cX0_fallen 20 = .ok (.ifCond .ne 20, 3) := by decide +kernel
theorem dX0_fallen_23 : decode cX0_fallen 23 = .ok (.aload_n 0, 1) := by decide +kernel
theorem dX0_fallen_24 : decode cX0_fallen 24 = .ok (.getfield 18, 3) := by decide +kernel
theorem dX0_fallen_27 : decode cX0_fallen 27 = .ok (.iload_n 3, 1) := by decide +kernel
theorem dX0_fallen_28 : decode cX0_fallen 28 = .ok (.iaload, 1) := by decide +kernel
theorem dX0_fallen_29 : decode cX0_fallen 29 = .ok (.iload_n 2, 1) := by decide +kernel
theorem dX0_fallen_30 : decode cX0_fallen 30 = .ok (.iand, 1) := by decide +kernel
theorem dX0_fallen_31 : decode cX0_fallen 31 = .ok (.ifCond .eq 9, 3) := by decide +kernel
theorem dX0_fallen_34 : decode cX0_fallen 34 = .ok (.iload_n 2, 1) := by decide +kernel
theorem dX0_fallen_35 : decode cX0_fallen 35 = .ok (.iconst 1, 1) := by decide +kernel
theorem dX0_fallen_36 : decode cX0_fallen 36 = .ok (.iload_n 3, 1) := by decide +kernel
theorem dX0_fallen_37 : decode cX0_fallen 37 = .ok (.ishl, 1) := by decide +kernel
theorem dX0_fallen_38 : decode cX0_fallen 38 = .ok (.ior, 1) := by decide +kernel
theorem dX0_fallen_39 : decode cX0_fallen 39 = .ok (.istore_n 2, 1) := by decide +kernel
theorem dX0_fallen_40 : decode cX0_fallen 40 = .ok (.iinc 3 1, 3) := by decide +kernel
theorem dX0_fallen_43 : decode cX0_fallen 43 = .ok (.goto (-39), 3) := by decide +kernel
theorem dX0_fallen_46 : decode cX0_fallen 46 = .ok (.iload_n 2, 1) := by decide +kernel
theorem dX0_fallen_47 : decode cX0_fallen 47 = .ok (.ireturn, 1) := by decide +kernel
theorem dX0_rootOf_0 : decode cX0_rootOf 0 = .ok (.iconst 0, 1) := by decide +kernel
theorem dX0_rootOf_1 : decode cX0_rootOf 1 = .ok (.istore_n 3, 1) := by decide +kernel
theorem dX0_rootOf_2 : decode cX0_rootOf 2 = .ok (.iload_n 3, 1) := by decide +kernel
theorem dX0_rootOf_3 : decode cX0_rootOf 3 = .ok (.iload_n 1, 1) := by decide +kernel
theorem dX0_rootOf_4 : decode cX0_rootOf 4 = .ok (.if_icmp .gt 43, 3) := by decide +kernel
theorem dX0_rootOf_7 : decode cX0_rootOf 7 = .ok (.iload_n 3, 1) := by decide +kernel
theorem dX0_rootOf_8 : decode cX0_rootOf 8 = .ok (.aload_n 0, 1) := by decide +kernel
theorem dX0_rootOf_9 : decode cX0_rootOf 9 = .ok (.getfield 31, 3) := by decide +kernel
theorem dX0_rootOf_12 : decode cX0_rootOf 12 = .ok (.if_icmp .ge 35, 3) := by decide +kernel
theorem dX0_rootOf_15 : decode cX0_rootOf 15 = .ok (.iload_n 2, 1) := by decide +kernel
theorem dX0_rootOf_16 : decode cX0_rootOf 16 = .ok (.iload_n 3, 1) := by decide +kernel
theorem dX0_rootOf_17 : decode cX0_rootOf 17 = .ok (.invokestatic 60, 3) := by decide +kernel
theorem dX0_rootOf_20 : decode cX0_rootOf 20 = .ok (.iconst 1, 1) := by decide +kernel
theorem dX0_rootOf_21 : decode cX0_rootOf 21 = .ok (.if_icmp .ne 20, 3) := by decide +kernel
theorem dX0_rootOf_24 : decode cX0_rootOf 24 = .ok (.aload_n 0, 1) := by decide +kernel
theorem dX0_rootOf_25 : decode cX0_rootOf 25 = .ok (.iconst 1, 1) := by decide +kernel
theorem dX0_rootOf_26 : decode cX0_rootOf 26 = .ok (.iload_n 3, 1) := by decide +kernel
theorem dX0_rootOf_27 : decode cX0_rootOf 27 = .ok (.ishl, 1) := by decide +kernel
theorem dX0_rootOf_28 : decode cX0_rootOf 28 = .ok (.invokevirtual 57, 3) := by decide +kernel
theorem dX0_rootOf_31 : decode cX0_rootOf 31 = .ok (.iload_n 1, 1) := by decide +kernel
theorem dX0_rootOf_32 : decode cX0_rootOf 32 = .ok (.invokestatic 60, 3) := by decide +kernel
theorem dX0_rootOf_35 : decode cX0_rootOf 35 = .ok (.iconst 1, 1) := by decide +kernel
theorem dX0_rootOf_36 : decode cX0_rootOf 36 = .ok (.if_icmp .ne 5, 3) := by decide +kernel
theorem dX0_rootOf_39 : decode cX0_rootOf 39 = .ok (.iload_n 3, 1) := by decide +kernel
theorem dX0_rootOf_40 : decode cX0_rootOf 40 = .ok (.ireturn, 1) := by decide +kernel
theorem dX0_rootOf_41 : decode cX0_rootOf 41 = .ok (.iinc 3 1, 3) := by decide +kernel
theorem dX0_rootOf_44 : decode cX0_rootOf 44 = .ok (.goto (-42), 3) := by decide +kernel
theorem dX0_rootOf_47 : decode cX0_rootOf 47 = .ok (.iconst (-1), 1) := by decide +kernel
theorem dX0_rootOf_48 : decode cX0_rootOf 48 = .ok (.ireturn, 1) := by decide +kernel
theorem dX0_doneBy_0 : decode cX0_doneBy 0 = .ok (.iconst 0, 1) := by decide +kernel
theorem dX0_doneBy_1 : decode cX0_doneBy 1 = .ok (.istore_n 2, 1) := by decide +kernel
theorem dX0_doneBy_2 : decode cX0_doneBy 2 = .ok (.iconst 0, 1) := by decide +kernel
theorem dX0_doneBy_3 : decode cX0_doneBy 3 = .ok (.istore_n 3, 1) := by decide +kernel
theorem dX0_doneBy_4 : decode cX0_doneBy 4 = .ok (.iload_n 3, 1) := by decide +kernel
theorem dX0_doneBy_5 : decode cX0_doneBy 5 = .ok (.aload_n 0, 1) := by decide +kernel
theorem dX0_doneBy_6 : decode cX0_doneBy 6 = .ok (.getfield 31, 3) := by decide +kernel
theorem dX0_doneBy_9 : decode cX0_doneBy 9 = .ok (.if_icmp .ge 24, 3) := by decide +kernel
theorem dX0_doneBy_12 : decode cX0_doneBy 12 = .ok (.iload_n 2, 1) := by decide +kernel
theorem dX0_doneBy_13 : decode cX0_doneBy 13 = .ok (.iload_n 1, 1) := by decide +kernel
theorem dX0_doneBy_14 : decode cX0_doneBy 14 = .ok (.aload_n 0, 1) := by decide +kernel
theorem dX0_doneBy_15 : decode cX0_doneBy 15 = .ok (.getfield 15, 3) := by decide +kernel
theorem dX0_doneBy_18 : decode cX0_doneBy 18 = .ok (.iload_n 3, 1) := by decide +kernel
theorem dX0_doneBy_19 : decode cX0_doneBy 19 = .ok (.iaload, 1) := by decide +kernel
theorem dX0_doneBy_20 : decode cX0_doneBy 20 = .ok (.invokestatic 60, 3) := by decide +kernel
theorem dX0_doneBy_23 : decode cX0_doneBy 23 = .ok (.iload_n 3, 1) := by decide +kernel
theorem dX0_doneBy_24 : decode cX0_doneBy 24 = .ok (.ishl, 1) := by decide +kernel
theorem dX0_doneBy_25 : decode cX0_doneBy 25 = .ok (.ior, 1) := by decide +kernel
theorem dX0_doneBy_26 : decode cX0_doneBy 26 = .ok (.istore_n 2, 1) := by decide +kernel
theorem dX0_doneBy_27 : decode cX0_doneBy 27 = .ok (.iinc 3 1, 3) := by decide +kernel
theorem dX0_doneBy_30 : decode cX0_doneBy 30 = .ok (.goto (-26), 3) := by decide +kernel
theorem dX0_doneBy_33 : decode cX0_doneBy 33 = .ok (.iload_n 2, 1) := by decide +kernel
theorem dX0_doneBy_34 : decode cX0_doneBy 34 = .ok (.ireturn, 1) := by decide +kernel
theorem dX1_init_0 : decode cX1_init 0 = .ok (.aload_n 0, 1) := by decide +kernel
theorem dX1_init_1 : decode cX1_init 1 = .ok (.invokespecial 3, 3) := by decide +kernel
theorem dX1_init_4 : decode cX1_init 4 = .ok (.aload_n 0, 1) := by decide +kernel
theorem dX1_init_5 : decode cX1_init 5 = .ok (.new 9, 3) := by decide +kernel
theorem dX1_init_8 : decode cX1_init 8 = .ok (.dup, 1) := by decide +kernel
theorem dX1_init_9 : decode cX1_init 9 = .ok (.invokespecial 11, 3) := by decide +kernel
theorem dX1_init_12 : decode cX1_init 12 = .ok (.putfield 12, 3) := by decide +kernel
theorem dX1_init_15 : decode cX1_init 15 = .ok (.aload_n 0, 1) := by decide +kernel
theorem dX1_init_16 : decode cX1_init 16 = .ok (.aload_n 0, 1) := by decide +kernel
theorem dX1_init_17 : decode cX1_init 17 = .ok (.getfield 12, 3) := by decide +kernel
theorem dX1_init_20 : decode cX1_init 20 = .ok (.getfield 18, 3) := by decide +kernel
theorem dX1_init_23 : decode cX1_init 23 = .ok (.putfield 22, 3) := by decide +kernel
theorem dX1_init_26 : decode cX1_init 26 = .ok (.aload_n 0, 1) := by decide +kernel
theorem dX1_init_27 : decode cX1_init 27 = .ok (.bipush 6, 2) := by decide +kernel
theorem dX1_init_29 : decode cX1_init 29 = .ok (.bipush 12, 2) := by decide +kernel
theorem dX1_init_31 : decode cX1_init 31 = .ok (.multianewarray 23 2, 4) := by decide +kernel
theorem dX1_init_35 : decode cX1_init 35 = .ok (.putfield 25, 3) := by decide +kernel
theorem dX1_init_38 : decode cX1_init 38 = .ok (.return_, 1) := by decide +kernel
theorem dX1_renew_0 : decode cX1_renew 0 = .ok (.aload_n 0, 1) := by decide +kernel
theorem dX1_renew_1 : decode cX1_renew 1 = .ok (.aload_n 0, 1) := by decide +kernel
theorem dX1_renew_2 : decode cX1_renew 2 = .ok (.getfield 12, 3) := by decide +kernel
theorem dX1_renew_5 : decode cX1_renew 5 = .ok (.iconst (-1), 1) := by decide +kernel
theorem dX1_renew_6 : decode cX1_renew 6 = .ok (.invokevirtual 28, 3) := by decide +kernel
theorem dX1_renew_9 : decode cX1_renew 9 = .ok (.putfield 32, 3) := by decide +kernel
theorem dX1_renew_12 : decode cX1_renew 12 = .ok (.aload_n 0, 1) := by decide +kernel
theorem dX1_renew_13 : decode cX1_renew 13 = .ok (.aload_n 0, 1) := by decide +kernel
theorem dX1_renew_14 : decode cX1_renew 14 = .ok (.getfield 12, 3) := by decide +kernel
theorem dX1_renew_17 : decode cX1_renew 17 = .ok (.aload_n 0, 1) := by decide +kernel
theorem dX1_renew_18 : decode cX1_renew 18 = .ok (.getfield 32, 3) := by decide +kernel
theorem dX1_renew_21 : decode cX1_renew 21 = .ok (.invokevirtual 36, 3) := by decide +kernel
theorem dX1_renew_24 : decode cX1_renew 24 = .ok (.putfield 39, 3) := by decide +kernel
theorem dX1_renew_27 : decode cX1_renew 27 = .ok (.return_, 1) := by decide +kernel
theorem dX1_standingWith_0 : decode cX1_standingWith 0 = .ok (.aload_n 0, 1) := by decide +kernel
theorem dX1_standingWith_1 : decode cX1_standingWith 1 = .ok (.getfield 32, 3) := by decide +kernel
theorem dX1_standingWith_4 : decode cX1_standingWith 4 = .ok (.istore_n 3, 1) := by decide +kernel
theorem dX1_standingWith_5 : decode cX1_standingWith 5 = .ok (.aload_n 0, 1) := by decide +kernel
theorem dX1_standingWith_6 : decode cX1_standingWith 6 = .ok (.getfield 12, 3) := by decide +kernel
theorem dX1_standingWith_9 : decode cX1_standingWith 9 = .ok (.getfield 41, 3) := by decide +kernel
theorem dX1_standingWith_12 : decode cX1_standingWith 12 = .ok (.istore 4, 2) := by decide +kernel
theorem dX1_standingWith_14 : decode cX1_standingWith 14 = .ok (.iload_n 1, 1) := by decide +kernel
theorem dX1_standingWith_15 : decode cX1_standingWith 15 = .ok (.iconst (-1), 1) := by decide +kernel
theorem dX1_standingWith_16 : decode cX1_standingWith 16 = .ok (.if_icmp .eq 31, 3) := by decide +kernel
theorem dX1_standingWith_19 : decode cX1_standingWith 19 = .ok (.iload 4, 2) := by decide +kernel
theorem dX1_standingWith_21 : decode cX1_standingWith 21 = .ok (.bipush 12, 2) := by decide +kernel
theorem dX1_standingWith_23 : decode cX1_standingWith 23 = .ok (.if_icmp .ge 24, 3) := by decide +kernel
theorem dX1_standingWith_26 : decode cX1_standingWith 26 = .ok (.aload_n 0, 1) := by decide +kernel
theorem dX1_standingWith_27 : decode cX1_standingWith 27 = .ok (.getfield 12, 3) := by decide +kernel
theorem dX1_standingWith_30 : decode cX1_standingWith 30 = .ok (.getfield 44, 3) := by decide +kernel
theorem dX1_standingWith_33 : decode cX1_standingWith 33 = .ok (.iload 4, 2) := by decide +kernel
theorem dX1_standingWith_35 : decode cX1_standingWith 35 = .ok (.iload_n 1, 1) := by decide +kernel
theorem dX1_standingWith_36 : decode cX1_standingWith 36 = .ok (.iastore, 1) := by decide +kernel
theorem dX1_standingWith_37 : decode cX1_standingWith 37 = .ok (.iload_n 3, 1) := by decide +kernel
theorem dX1_standingWith_38 : decode cX1_standingWith 38 = .ok (.iconst 1, 1) := by decide +kernel
theorem dX1_standingWith_39 : decode cX1_standingWith 39 = .ok (.iload 4, 2) := by decide +kernel
theorem dX1_standingWith_41 : decode cX1_standingWith 41 = .ok (.ishl, 1) := by decide +kernel
theorem dX1_standingWith_42 : decode cX1_standingWith 42 = .ok (.ior, 1) := by decide +kernel
theorem dX1_standingWith_43 : decode cX1_standingWith 43 = .ok (.istore_n 3, 1) := by decide +kernel
theorem dX1_standingWith_44 : decode cX1_standingWith 44 = .ok (.iinc 4 1, 3) := by decide +kernel
theorem dX1_standingWith_47 : decode cX1_standingWith 47 = .ok (.iload_n 2, 1) := by decide +kernel
theorem dX1_standingWith_48 : decode cX1_standingWith 48 = .ok (.iconst (-1), 1) := by decide +kernel
theorem dX1_standingWith_49 : decode cX1_standingWith 49 = .ok (.if_icmp .eq 28, 3) := by decide +kernel
theorem dX1_standingWith_52 : decode cX1_standingWith 52 = .ok (.iload 4, 2) := by decide +kernel
theorem dX1_standingWith_54 : decode cX1_standingWith 54 = .ok (.bipush 12, 2) := by decide +kernel
theorem dX1_standingWith_56 : decode cX1_standingWith 56 = .ok (.if_icmp .ge 21, 3) := by decide +kernel
theorem dX1_standingWith_59 : decode cX1_standingWith 59 = .ok (.aload_n 0, 1) := by decide +kernel
theorem dX1_standingWith_60 : decode cX1_standingWith 60 = .ok (.getfield 12, 3) := by decide +kernel
theorem dX1_standingWith_63 : decode cX1_standingWith 63 = .ok (.getfield 44, 3) := by decide +kernel
theorem dX1_standingWith_66 : decode cX1_standingWith 66 = .ok (.iload 4, 2) := by decide +kernel
theorem dX1_standingWith_68 : decode cX1_standingWith 68 = .ok (.iload_n 2, 1) := by decide +kernel
theorem dX1_standingWith_69 : decode cX1_standingWith 69 = .ok (.iastore, 1) := by decide +kernel
theorem dX1_standingWith_70 : decode cX1_standingWith 70 = .ok (.iload_n 3, 1) := by decide +kernel
theorem dX1_standingWith_71 : decode cX1_standingWith 71 = .ok (.iconst 1, 1) := by decide +kernel
theorem dX1_standingWith_72 : decode cX1_standingWith 72 = .ok (.iload 4, 2) := by decide +kernel
theorem dX1_standingWith_74 : decode cX1_standingWith 74 = .ok (.ishl, 1) := by decide +kernel
theorem dX1_standingWith_75 : decode cX1_standingWith 75 = .ok (.ior, 1) := by decide +kernel
theorem dX1_standingWith_76 : decode cX1_standingWith 76 = .ok (.istore_n 3, 1) := by decide +kernel
theorem dX1_standingWith_77 : decode cX1_standingWith 77 = .ok (.aload_n 0, 1) := by decide +kernel
theorem dX1_standingWith_78 : decode cX1_standingWith 78 = .ok (.getfield 22, 3) := by decide +kernel
theorem dX1_standingWith_81 : decode cX1_standingWith 81 = .ok (.aload_n 0, 1) := by decide +kernel
theorem dX1_standingWith_82 : decode cX1_standingWith 82 = .ok (.getfield 12, 3) := by decide +kernel
theorem dX1_standingWith_85 : decode cX1_standingWith 85 = .ok (.iload_n 3, 1) := by decide +kernel
theorem dX1_standingWith_86 : decode cX1_standingWith 86 = .ok (.invokevirtual 48, 3) := by decide +kernel
theorem dX1_standingWith_89 : decode cX1_standingWith 89 = .ok (.invokevirtual 51, 3) := by decide +kernel
theorem dX1_standingWith_92 : decode cX1_standingWith 92 = .ok (.ireturn, 1) := by decide +kernel
theorem dX1_isAsTold_0 : decode cX1_isAsTold 0 = .ok (.iload_n 2, 1) := by decide +kernel
theorem dX1_isAsTold_1 : decode cX1_isAsTold 1 = .ok (.aload_n 0, 1) := by decide +kernel
theorem dX1_isAsTold_2 : decode cX1_isAsTold 2 = .ok (.getfield 22, 3) := by decide +kernel
theorem dX1_isAsTold_5 : decode cX1_isAsTold 5 = .ok (.getfield 56, 3) := by decide +kernel
theorem dX1_isAsTold_8 : decode cX1_isAsTold 8 = .ok (.invokestatic 57, 3) := by decide +kernel
theorem dX1_isAsTold_11 : decode cX1_isAsTold 11 = .ok (.iand, 1) := by decide +kernel
theorem dX1_isAsTold_12 : decode cX1_isAsTold 12 = .ok (.istore 4, 2) := by decide +kernel
theorem dX1_isAsTold_14 : decode cX1_isAsTold 14 = .ok (.iload_n 1, 1) := by decide +kernel
theorem dX1_isAsTold_15 : decode cX1_isAsTold 15 = .ok (.iload 4, 2) := by decide +kernel
theorem dX1_isAsTold_17 : decode cX1_isAsTold 17 = .ok (.iand, 1) := by decide +kernel
theorem dX1_isAsTold_18 : decode cX1_isAsTold 18 = .ok (.iload 4, 2) := by decide +kernel
theorem dX1_isAsTold_20 : decode cX1_isAsTold 20 = .ok (.if_icmp .ne 13, 3) := by decide +kernel
theorem dX1_isAsTold_23 : decode cX1_isAsTold 23 = .ok (.iload_n 1, 1) := by decide +kernel
theorem dX1_isAsTold_24 : decode cX1_isAsTold 24 = .ok (.iload_n 3, 1) := by decide +kernel
theorem dX1_isAsTold_25 : decode cX1_isAsTold 25 = .ok (.iand, 1) := by decide +kernel
theorem dX1_isAsTold_26 : decode cX1_isAsTold 26 = .ok (.ifCond .ne 7, 3) := by decide +kernel
theorem dX1_isAsTold_29 : decode cX1_isAsTold 29 = .ok (.iconst 1, 1) := by decide +kernel
theorem dX1_isAsTold_30 : decode cX1_isAsTold 30 = .ok (.goto 4, 3) := by decide +kernel
theorem dX1_isAsTold_33 : decode cX1_isAsTold 33 = .ok (.iconst 0, 1) := by decide +kernel
theorem dX1_isAsTold_34 : decode cX1_isAsTold 34 = .ok (.ireturn, 1) := by decide +kernel
theorem dX1_takersOf_0 : decode cX1_takersOf 0 = .ok (.aload_n 0, 1) := by decide +kernel
theorem dX1_takersOf_1 : decode cX1_takersOf 1 = .ok (.getfield 12, 3) := by decide +kernel
theorem dX1_takersOf_4 : decode cX1_takersOf 4 = .ok (.iload_n 1, 1) := by decide +kernel
theorem dX1_takersOf_5 : decode cX1_takersOf 5 = .ok (.aload_n 0, 1) := by decide +kernel
theorem dX1_takersOf_6 : decode cX1_takersOf 6 = .ok (.getfield 32, 3) := by decide +kernel
theorem dX1_takersOf_9 : decode cX1_takersOf 9 = .ok (.invokevirtual 60, 3) := by decide +kernel
theorem dX1_takersOf_12 : decode cX1_takersOf 12 = .ok (.istore_n 2, 1) := by decide +kernel
theorem dX1_takersOf_13 : decode cX1_takersOf 13 = .ok (.iload_n 2, 1) := by decide +kernel
theorem dX1_takersOf_14 : decode cX1_takersOf 14 = .ok (.iconst (-1), 1) := by decide +kernel
theorem dX1_takersOf_15 : decode cX1_takersOf 15 = .ok (.if_icmp .ne 7, 3) := by decide +kernel
theorem dX1_takersOf_18 : decode cX1_takersOf 18 = .ok (.iconst 0, 1) := by decide +kernel
theorem dX1_takersOf_19 : decode cX1_takersOf 19 = .ok (.goto 13, 3) := by decide +kernel
theorem dX1_takersOf_22 : decode cX1_takersOf 22 = .ok (.aload_n 0, 1) := by decide +kernel
theorem dX1_takersOf_23 : decode cX1_takersOf 23 = .ok (.getfield 39, 3) := by decide +kernel
theorem dX1_takersOf_26 : decode cX1_takersOf 26 = .ok (.iconst 1, 1) := by decide +kernel
theorem dX1_takersOf_27 : decode cX1_takersOf 27 = .ok (.iload_n 2, 1) := by decide +kernel
theorem dX1_takersOf_28 : decode cX1_takersOf 28 = .ok (.ishl, 1) := by decide +kernel
theorem dX1_takersOf_29 : decode cX1_takersOf 29 = .ok (.iconst (-1), 1) := by decide +kernel
theorem dX1_takersOf_30 : decode cX1_takersOf 30 = .ok (.ixor, 1) := by decide +kernel
theorem dX1_takersOf_31 : decode cX1_takersOf 31 = .ok (.iand, 1) := by decide +kernel
theorem dX1_takersOf_32 : decode cX1_takersOf 32 = .ok (.ireturn, 1) := by decide +kernel
theorem dX1_leastTaker_0 : decode cX1_leastTaker 0 = .ok (.iload_n 2, 1) := by decide +kernel
theorem dX1_leastTaker_1 : decode cX1_leastTaker 1 = .ok (.iconst (-1), 1) := by decide +kernel
theorem dX1_leastTaker_2 : decode cX1_leastTaker 2 = .ok (.if_icmp .ne 7, 3) := by decide +kernel
theorem dX1_leastTaker_5 : decode cX1_leastTaker 5 = .ok (.iconst 1, 1) := by decide +kernel
theorem dX1_leastTaker_6 : decode cX1_leastTaker 6 = .ok (.goto 4, 3) := by decide +kernel
theorem dX1_leastTaker_9 : decode cX1_leastTaker 9 = .ok (.iconst 2, 1) := by decide +kernel
theorem dX1_leastTaker_10 : decode cX1_leastTaker 10 = .ok (.istore_n 3, 1) := by decide +kernel
theorem dX1_leastTaker_11 : decode cX1_leastTaker 11 = .ok (.aload_n 0, 1) := by decide +kernel
theorem dX1_leastTaker_12 : decode cX1_leastTaker 12 = .ok (.getfield 12, 3) := by decide +kernel
theorem dX1_leastTaker_15 : decode cX1_leastTaker 15 = .ok (.getfield 41, 3) := by decide +kernel
theorem dX1_leastTaker_18 : decode cX1_leastTaker 18 = .ok (.iload_n 3, 1) := by decide +kernel
theorem dX1_leastTaker_19 : decode cX1_leastTaker 19 = .ok (.iadd, 1) := by decide +kernel
theorem dX1_leastTaker_20 : decode cX1_leastTaker 20 = .ok (.bipush 12, 2) := by decide +kernel
theorem dX1_leastTaker_22 : decode cX1_leastTaker 22 = .ok (.if_icmp .le 5, 3) := by decide +kernel
theorem dX1_leastTaker_25 : decode cX1_leastTaker 25 = .ok (.iconst (-1), 1) := by decide +kernel
theorem dX1_leastTaker_26 : decode cX1_leastTaker 26 = .ok (.ireturn, 1) := by decide +kernel
theorem dX1_leastTaker_27 : decode cX1_leastTaker 27 = .ok (.aload_n 0, 1) := by decide +kernel
theorem dX1_leastTaker_28 : decode cX1_leastTaker 28 = .ok (.iload_n 1, 1) := by decide +kernel
theorem dX1_leastTaker_29 : decode cX1_leastTaker 29 = .ok (.invokevirtual 64, 3) := by decide +kernel
theorem dX1_leastTaker_32 : decode cX1_leastTaker 32 = .ok (.istore 4, 2) := by decide +kernel
theorem dX1_leastTaker_34 : decode cX1_leastTaker 34 = .ok (.iload_n 2, 1) := by decide +kernel
theorem dX1_leastTaker_35 : decode cX1_leastTaker 35 = .ok (.iconst (-1), 1) := by decide +kernel
theorem dX1_leastTaker_36 : decode cX1_leastTaker 36 = .ok (.if_icmp .ne 8, 3) := by decide +kernel
theorem dX1_leastTaker_39 : decode cX1_leastTaker 39 = .ok (.bipush 63, 2) := by decide +kernel
theorem dX1_leastTaker_41 : decode cX1_leastTaker 41 = .ok (.goto 8, 3) := by decide +kernel
theorem dX1_leastTaker_44 : decode cX1_leastTaker 44 = .ok (.aload_n 0, 1) := by decide +kernel
theorem dX1_leastTaker_45 : decode cX1_leastTaker 45 = .ok (.iload_n 2, 1) := by decide +kernel
theorem dX1_leastTaker_46 : decode cX1_leastTaker 46 = .ok (.invokevirtual 64, 3) := by decide +kernel
theorem dX1_leastTaker_49 : decode cX1_leastTaker 49 = .ok (.istore 5, 2) := by decide +kernel
theorem dX1_leastTaker_51 : decode cX1_leastTaker 51 = .ok (.iconst 0, 1) := by decide +kernel
theorem dX1_leastTaker_52 : decode cX1_leastTaker 52 = .ok (.istore 6, 2) := by decide +kernel
theorem dX1_leastTaker_54 : decode cX1_leastTaker 54 = .ok (.iload 6, 2) := by decide +kernel
theorem dX1_leastTaker_56 : decode cX1_leastTaker 56 = .ok (.bipush 6, 2) := by decide +kernel
theorem dX1_leastTaker_58 : decode cX1_leastTaker 58 = .ok (.if_icmp .ge 35, 3) := by decide +kernel
theorem dX1_leastTaker_61 : decode cX1_leastTaker 61 = .ok (.iload 4, 2) := by decide +kernel
theorem dX1_leastTaker_63 : decode cX1_leastTaker 63 = .ok (.iload 6, 2) := by decide +kernel
theorem dX1_leastTaker_65 : decode cX1_leastTaker 65 = .ok (.invokestatic 67, 3) := by decide +kernel
theorem dX1_leastTaker_68 : decode cX1_leastTaker 68 = .ok (.iconst 1, 1) := by decide +kernel
theorem dX1_leastTaker_69 : decode cX1_leastTaker 69 = .ok (.if_icmp .ne 18, 3) := by decide +kernel
theorem dX1_leastTaker_72 : decode cX1_leastTaker 72 = .ok (.iload 5, 2) := by decide +kernel
theorem dX1_leastTaker_74 : decode cX1_leastTaker 74 = .ok (.iconst 1, 1) := by decide +kernel
theorem dX1_leastTaker_75 : decode cX1_leastTaker 75 = .ok (.iload 6, 2) := by decide +kernel
theorem dX1_leastTaker_77 : decode cX1_leastTaker 77 = .ok (.ishl, 1) := by decide +kernel
theorem dX1_leastTaker_78 : decode cX1_leastTaker 78 = .ok (.iconst (-1), 1) := by decide +kernel
theorem dX1_leastTaker_79 : decode cX1_leastTaker 79 = .ok (.ixor, 1) := by decide +kernel
theorem dX1_leastTaker_80 : decode cX1_leastTaker 80 = .ok (.iand, 1) := by decide +kernel
theorem dX1_leastTaker_81 : decode cX1_leastTaker 81 = .ok (.ifCond .eq 6, 3) := by decide +kernel
theorem dX1_leastTaker_84 : decode cX1_leastTaker 84 = .ok (.iload 6, 2) := by decide +kernel
theorem dX1_leastTaker_86 : decode cX1_leastTaker 86 = .ok (.ireturn, 1) := by decide +kernel
theorem dX1_leastTaker_87 : decode cX1_leastTaker 87 = .ok (.iinc 6 1, 3) := by decide +kernel
theorem dX1_leastTaker_90 : decode cX1_leastTaker 90 = .ok (.goto (-36), 3) := by decide +kernel
theorem dX1_leastTaker_93 : decode cX1_leastTaker 93 = .ok (.iconst (-1), 1) := by decide +kernel
theorem dX1_leastTaker_94 : decode cX1_leastTaker 94 = .ok (.ireturn, 1) := by decide +kernel
theorem dX1_leastFirst_0 : decode cX1_leastFirst 0 = .ok (.iload_n 3, 1) := by decide +kernel
theorem dX1_leastFirst_1 : decode cX1_leastFirst 1 = .ok (.iconst 1, 1) := by decide +kernel
theorem dX1_leastFirst_2 : decode cX1_leastFirst 2 = .ok (.if_icmp .ne 7, 3) := by decide +kernel
theorem dX1_leastFirst_5 : decode cX1_leastFirst 5 = .ok (.iconst (-1), 1) := by decide +kernel
theorem dX1_leastFirst_6 : decode cX1_leastFirst 6 = .ok (.goto 4, 3) := by decide +kernel
theorem dX1_leastFirst_9 : decode cX1_leastFirst 9 = .ok (.iconst 0, 1) := by decide +kernel
theorem dX1_leastFirst_10 : decode cX1_leastFirst 10 = .ok (.istore 4, 2) := by decide +kernel
theorem dX1_leastFirst_12 : decode cX1_leastFirst 12 = .ok (.iload_n 3, 1) := by decide +kernel
theorem dX1_leastFirst_13 : decode cX1_leastFirst 13 = .ok (.iconst 1, 1) := by decide +kernel
theorem dX1_leastFirst_14 : decode cX1_leastFirst 14 = .ok (.if_icmp .ne 7, 3) := by decide +kernel
theorem dX1_leastFirst_17 : decode cX1_leastFirst 17 = .ok (.iconst 0, 1) := by decide +kernel
theorem dX1_leastFirst_18 : decode cX1_leastFirst 18 = .ok (.goto 5, 3) := by decide +kernel
theorem dX1_leastFirst_21 : decode cX1_leastFirst 21 = .ok (.bipush 24, 2) := by decide +kernel
theorem dX1_leastFirst_23 : decode cX1_leastFirst 23 = .ok (.istore 5, 2) := by decide +kernel
theorem dX1_leastFirst_25 : decode cX1_leastFirst 25 = .ok (.iconst (-1), 1) := by decide +kernel
theorem dX1_leastFirst_26 : decode cX1_leastFirst 26 = .ok (.istore 6, 2) := by decide +kernel
theorem dX1_leastFirst_28 : decode cX1_leastFirst 28 = .ok (.iconst 0, 1) := by decide +kernel
theorem dX1_leastFirst_29 : decode cX1_leastFirst 29 = .ok (.istore 7, 2) := by decide +kernel
theorem dX1_leastFirst_31 : decode cX1_leastFirst 31 = .ok (.iload 7, 2) := by decide +kernel
theorem dX1_leastFirst_33 : decode cX1_leastFirst 33 = .ok (.bipush 24, 2) := by decide +kernel
theorem dX1_leastFirst_35 : decode cX1_leastFirst 35 = .ok (.if_icmp .ge 101, 3) := by decide +kernel
theorem dX1_leastFirst_38 : decode cX1_leastFirst 38 = .ok (.iload 4, 2) := by decide +kernel
theorem dX1_leastFirst_40 : decode cX1_leastFirst 40 = .ok (.istore 8, 2) := by decide +kernel
theorem dX1_leastFirst_42 : decode cX1_leastFirst 42 = .ok (.iload 8, 2) := by decide +kernel
theorem dX1_leastFirst_44 : decode cX1_leastFirst 44 = .ok (.iload 5, 2) := by decide +kernel
theorem dX1_leastFirst_46 : decode cX1_leastFirst 46 = .ok (.if_icmp .ge 84, 3) := by decide +kernel
theorem dX1_leastFirst_49 : decode cX1_leastFirst 49 = .ok (.aload_n 0, 1) := by decide +kernel
theorem dX1_leastFirst_50 : decode cX1_leastFirst 50 = .ok (.iload 7, 2) := by decide +kernel
theorem dX1_leastFirst_52 : decode cX1_leastFirst 52 = .ok (.iload 8, 2) := by decide +kernel
theorem dX1_leastFirst_54 : decode cX1_leastFirst 54 = .ok (.invokevirtual 70, 3) := by decide +kernel
theorem dX1_leastFirst_57 : decode cX1_leastFirst 57 = .ok (.istore 9, 2) := by decide +kernel
theorem dX1_leastFirst_59 : decode cX1_leastFirst 59 = .ok (.iload 9, 2) := by decide +kernel
theorem dX1_leastFirst_61 : decode cX1_leastFirst 61 = .ok (.iconst (-1), 1) := by decide +kernel
theorem dX1_leastFirst_62 : decode cX1_leastFirst 62 = .ok (.if_icmp .ne 6, 3) := by decide +kernel
theorem dX1_leastFirst_65 : decode cX1_leastFirst 65 = .ok (.goto 59, 3) := by decide +kernel
theorem dX1_leastFirst_68 : decode cX1_leastFirst 68 = .ok (.bipush 24, 2) := by decide +kernel
theorem dX1_leastFirst_70 : decode cX1_leastFirst 70 = .ok (.iload 9, 2) := by decide +kernel
theorem dX1_leastFirst_72 : decode cX1_leastFirst 72 = .ok (.imul, 1) := by decide +kernel
theorem dX1_leastFirst_73 : decode cX1_leastFirst 73 = .ok (.iload 7, 2) := by decide +kernel
theorem dX1_leastFirst_75 : decode cX1_leastFirst 75 = .ok (.iadd, 1) := by decide +kernel
theorem dX1_leastFirst_76 : decode cX1_leastFirst 76 = .ok (.istore 10, 2) := by decide +kernel
theorem dX1_leastFirst_78 : decode cX1_leastFirst 78 = .ok (.iload 6, 2) := by decide +kernel
theorem dX1_leastFirst_80 : decode cX1_leastFirst 80 = .ok (.iconst (-1), 1) := by decide +kernel
theorem dX1_leastFirst_81 : decode cX1_leastFirst 81 = .ok (.if_icmp .eq 10, 3) := by decide +kernel
theorem dX1_leastFirst_84 : decode cX1_leastFirst 84 = .ok (.iload 10, 2) := by decide +kernel
theorem dX1_leastFirst_86 : decode cX1_leastFirst 86 = .ok (.iload 6, 2) := by decide +kernel
theorem dX1_leastFirst_88 : decode cX1_leastFirst 88 = .ok (.if_icmp .ge 7, 3) := by decide +kernel
theorem dX1_leastFirst_91 : decode cX1_leastFirst 91 = .ok (.iconst 1, 1) := by decide +kernel
theorem dX1_leastFirst_92 : decode cX1_leastFirst 92 = .ok (.goto 4, 3) := by decide +kernel
theorem dX1_leastFirst_95 : decode cX1_leastFirst 95 = .ok (.iconst 0, 1) := by decide +kernel
theorem dX1_leastFirst_96 : decode cX1_leastFirst 96 = .ok (.istore 11, 2) := by decide +kernel
theorem dX1_leastFirst_98 : decode cX1_leastFirst 98 = .ok (.iload 11, 2) := by decide +kernel
theorem dX1_leastFirst_100 : decode cX1_leastFirst 100 = .ok (.ifCond .eq 24, 3) := by decide +kernel
theorem dX1_leastFirst_103 : decode cX1_leastFirst 103 = .ok (.aload_n 0, 1) := by decide +kernel
theorem dX1_leastFirst_104 : decode cX1_leastFirst 104 = .ok (.aload_n 0, 1) := by decide +kernel
theorem dX1_leastFirst_105 : decode cX1_leastFirst 105 = .ok (.iload 7, 2) := by decide +kernel
theorem dX1_leastFirst_107 : decode cX1_leastFirst 107 = .ok (.iload 8, 2) := by decide +kernel
theorem dX1_leastFirst_109 : decode cX1_leastFirst 109 = .ok (.invokevirtual 73, 3) := by decide +kernel
theorem dX1_leastFirst_112 : decode cX1_leastFirst 112 = .ok (.iload_n 1, 1) := by decide +kernel
theorem dX1_leastFirst_113 : decode cX1_leastFirst 113 = .ok (.iload_n 2, 1) := by decide +kernel
theorem dX1_leastFirst_114 : decode cX1_leastFirst 114 = .ok (.invokevirtual 76, 3) := by decide +kernel
theorem dX1_leastFirst_117 : decode cX1_leastFirst 117 = .ok (.ifCond .eq 7, 3) := by decide +kernel
theorem dX1_leastFirst_120 : decode cX1_leastFirst 120 = .ok (.iload 10, 2) := by decide +kernel
theorem dX1_leastFirst_122 : decode cX1_leastFirst 122 = .ok (.istore 6, 2) := by decide +kernel
theorem dX1_leastFirst_124 : decode cX1_leastFirst 124 = .ok (.iinc 8 1, 3) := by decide +kernel
theorem dX1_leastFirst_127 : decode cX1_leastFirst 127 = .ok (.goto (-85), 3) := by decide +kernel
theorem dX1_leastFirst_130 : decode cX1_leastFirst 130 = .ok (.iinc 7 1, 3) := by decide +kernel
theorem dX1_leastFirst_133 : decode cX1_leastFirst 133 = .ok (.goto (-102), 3) := by decide +kernel
theorem dX1_leastFirst_136 : decode cX1_leastFirst 136 = .ok (.iload 6, 2) := by decide +kernel
theorem dX1_leastFirst_138 : decode cX1_leastFirst 138 = .ok (.ireturn, 1) := by decide +kernel
theorem dX1_lasting_0 : decode cX1_lasting 0 = .ok (.iload_n 1, 1) := by decide +kernel
theorem dX1_lasting_1 : decode cX1_lasting 1 = .ok (.ifCond .ne 7, 3) := by decide +kernel
theorem dX1_lasting_4 : decode cX1_lasting 4 = .ok (.iconst 0, 1) := by decide +kernel
theorem dX1_lasting_5 : decode cX1_lasting 5 = .ok (.goto 5, 3) := by decide +kernel
theorem dX1_lasting_8 : decode cX1_lasting 8 = .ok (.bipush 24, 2) := by decide +kernel
theorem dX1_lasting_10 : decode cX1_lasting 10 = .ok (.istore_n 2, 1) := by decide +kernel
theorem dX1_lasting_11 : decode cX1_lasting 11 = .ok (.iload_n 1, 1) := by decide +kernel
theorem dX1_lasting_12 : decode cX1_lasting 12 = .ok (.iconst 2, 1) := by decide +kernel
theorem dX1_lasting_13 : decode cX1_lasting 13 = .ok (.if_icmp .ne 8, 3) := by decide +kernel
theorem dX1_lasting_16 : decode cX1_lasting 16 = .ok (.bipush 24, 2) := by decide +kernel
theorem dX1_lasting_18 : decode cX1_lasting 18 = .ok (.goto 4, 3) := by decide +kernel
theorem dX1_lasting_21 : decode cX1_lasting 21 = .ok (.iconst 0, 1) := by decide +kernel
theorem dX1_lasting_22 : decode cX1_lasting 22 = .ok (.istore_n 3, 1) := by decide +kernel
theorem dX1_lasting_23 : decode cX1_lasting 23 = .ok (.aload_n 0, 1) := by decide +kernel
theorem dX1_lasting_24 : decode cX1_lasting 24 = .ok (.iconst (-1), 1) := by decide +kernel
theorem dX1_lasting_25 : decode cX1_lasting 25 = .ok (.iconst (-1), 1) := by decide +kernel
theorem dX1_lasting_26 : decode cX1_lasting 26 = .ok (.invokevirtual 73, 3) := by decide +kernel
theorem dX1_lasting_29 : decode cX1_lasting 29 = .ok (.istore 4, 2) := by decide +kernel
theorem dX1_lasting_31 : decode cX1_lasting 31 = .ok (.iconst 0, 1) := by decide +kernel
theorem dX1_lasting_32 : decode cX1_lasting 32 = .ok (.istore 5, 2) := by decide +kernel
theorem dX1_lasting_34 : decode cX1_lasting 34 = .ok (.iload 5, 2) := by decide +kernel
theorem dX1_lasting_36 : decode cX1_lasting 36 = .ok (.iload_n 2, 1) := by decide +kernel
theorem dX1_lasting_37 : decode cX1_lasting 37 = .ok (.if_icmp .ge 49, 3) := by decide +kernel
theorem dX1_lasting_40 : decode cX1_lasting 40 = .ok (.iconst (-1), 1) := by decide +kernel
theorem dX1_lasting_41 : decode cX1_lasting 41 = .ok (.istore 6, 2) := by decide +kernel
theorem dX1_lasting_43 : decode cX1_lasting 43 = .ok (.iload 6, 2) := by decide +kernel
theorem dX1_lasting_45 : decode cX1_lasting 45 = .ok (.iload_n 3, 1) := by decide +kernel
theorem dX1_lasting_46 : decode cX1_lasting 46 = .ok (.if_icmp .ge 34, 3) := by decide +kernel
theorem dX1_lasting_49 : decode cX1_lasting 49 = .ok (.aload_n 0, 1) := by decide +kernel
theorem dX1_lasting_50 : decode cX1_lasting 50 = .ok (.iload 5, 2) := by decide +kernel
theorem dX1_lasting_52 : decode cX1_lasting 52 = .ok (.iload 6, 2) := by decide +kernel
theorem dX1_lasting_54 : decode cX1_lasting 54 = .ok (.invokevirtual 70, 3) := by decide +kernel
theorem dX1_lasting_57 : decode cX1_lasting 57 = .ok (.iconst (-1), 1) := by decide +kernel
theorem dX1_lasting_58 : decode cX1_lasting 58 = .ok (.if_icmp .eq 16, 3) := by decide +kernel
theorem dX1_lasting_61 : decode cX1_lasting 61 = .ok (.iload 4, 2) := by decide +kernel
theorem dX1_lasting_63 : decode cX1_lasting 63 = .ok (.aload_n 0, 1) := by decide +kernel
theorem dX1_lasting_64 : decode cX1_lasting 64 = .ok (.iload 5, 2) := by decide +kernel
theorem dX1_lasting_66 : decode cX1_lasting 66 = .ok (.iload 6, 2) := by decide +kernel
theorem dX1_lasting_68 : decode cX1_lasting 68 = .ok (.invokevirtual 73, 3) := by decide +kernel
theorem dX1_lasting_71 : decode cX1_lasting 71 = .ok (.iand, 1) := by decide +kernel
theorem dX1_lasting_72 : decode cX1_lasting 72 = .ok (.istore 4, 2) := by decide +kernel
theorem dX1_lasting_74 : decode cX1_lasting 74 = .ok (.iinc 6 1, 3) := by decide +kernel
theorem dX1_lasting_77 : decode cX1_lasting 77 = .ok (.goto (-34), 3) := by decide +kernel
theorem dX1_lasting_80 : decode cX1_lasting 80 = .ok (.iinc 5 1, 3) := by decide +kernel
theorem dX1_lasting_83 : decode cX1_lasting 83 = .ok (.goto (-49), 3) := by decide +kernel
theorem dX1_lasting_86 : decode cX1_lasting 86 = .ok (.iload 4, 2) := by decide +kernel
theorem dX1_lasting_88 : decode cX1_lasting 88 = .ok (.ireturn, 1) := by decide +kernel
theorem dX1_bestMove_0 : decode cX1_bestMove 0 = .ok (.iconst (-1), 1) := by decide +kernel
theorem dX1_bestMove_1 : decode cX1_bestMove 1 = .ok (.istore_n 3, 1) := by decide +kernel
theorem dX1_bestMove_2 : decode cX1_bestMove 2 = .ok (.aload_n 0, 1) := by decide +kernel
theorem dX1_bestMove_3 : decode cX1_bestMove 3 = .ok (.aload_n 0, 1) := by decide +kernel
theorem dX1_bestMove_4 : decode cX1_bestMove 4 = .ok (.iconst (-1), 1) := by decide +kernel
theorem dX1_bestMove_5 : decode cX1_bestMove 5 = .ok (.aload_n 0, 1) := by decide +kernel
theorem dX1_bestMove_6 : decode cX1_bestMove 6 = .ok (.iload_n 2, 1) := by decide +kernel
theorem dX1_bestMove_7 : decode cX1_bestMove 7 = .ok (.iconst (-1), 1) := by decide +kernel
theorem dX1_bestMove_8 : decode cX1_bestMove 8 = .ok (.invokevirtual 80, 3) := by decide +kernel
theorem dX1_bestMove_11 : decode cX1_bestMove 11 = .ok (.invokevirtual 73, 3) := by decide +kernel
theorem dX1_bestMove_14 : decode cX1_bestMove 14 = .ok (.iload_n 1, 1) := by decide +kernel
theorem dX1_bestMove_15 : decode cX1_bestMove 15 = .ok (.invokevirtual 83, 3) := by decide +kernel
theorem dX1_bestMove_18 : decode cX1_bestMove 18 = .ok (.istore 4, 2) := by decide +kernel
theorem dX1_bestMove_20 : decode cX1_bestMove 20 = .ok (.iconst 0, 1) := by decide +kernel
theorem dX1_bestMove_21 : decode cX1_bestMove 21 = .ok (.istore 5, 2) := by decide +kernel
theorem dX1_bestMove_23 : decode cX1_bestMove 23 = .ok (.iload 5, 2) := by decide +kernel
theorem dX1_bestMove_25 : decode cX1_bestMove 25 = .ok (.bipush 24, 2) := by decide +kernel
theorem dX1_bestMove_27 : decode cX1_bestMove 27 = .ok (.if_icmp .ge 54, 3) := by decide +kernel
theorem dX1_bestMove_30 : decode cX1_bestMove 30 = .ok (.aload_n 0, 1) := by decide +kernel
theorem dX1_bestMove_31 : decode cX1_bestMove 31 = .ok (.iload_n 1, 1) := by decide +kernel
theorem dX1_bestMove_32 : decode cX1_bestMove 32 = .ok (.iload 5, 2) := by decide +kernel
theorem dX1_bestMove_34 : decode cX1_bestMove 34 = .ok (.iconst (-1), 1) := by decide +kernel
theorem dX1_bestMove_35 : decode cX1_bestMove 35 = .ok (.invokevirtual 86, 3) := by decide +kernel
theorem dX1_bestMove_38 : decode cX1_bestMove 38 = .ok (.ifCond .eq 37, 3) := by decide +kernel
theorem dX1_bestMove_41 : decode cX1_bestMove 41 = .ok (.aload_n 0, 1) := by decide +kernel
theorem dX1_bestMove_42 : decode cX1_bestMove 42 = .ok (.aload_n 0, 1) := by decide +kernel
theorem dX1_bestMove_43 : decode cX1_bestMove 43 = .ok (.iload 5, 2) := by decide +kernel
theorem dX1_bestMove_45 : decode cX1_bestMove 45 = .ok (.aload_n 0, 1) := by decide +kernel
theorem dX1_bestMove_46 : decode cX1_bestMove 46 = .ok (.iload_n 2, 1) := by decide +kernel
theorem dX1_bestMove_47 : decode cX1_bestMove 47 = .ok (.iload 5, 2) := by decide +kernel
theorem dX1_bestMove_49 : decode cX1_bestMove 49 = .ok (.invokevirtual 80, 3) := by decide +kernel
theorem dX1_bestMove_52 : decode cX1_bestMove 52 = .ok (.invokevirtual 73, 3) := by decide +kernel
theorem dX1_bestMove_55 : decode cX1_bestMove 55 = .ok (.iload_n 1, 1) := by decide +kernel
theorem dX1_bestMove_56 : decode cX1_bestMove 56 = .ok (.invokevirtual 83, 3) := by decide +kernel
theorem dX1_bestMove_59 : decode cX1_bestMove 59 = .ok (.istore 6, 2) := by decide +kernel
theorem dX1_bestMove_61 : decode cX1_bestMove 61 = .ok (.iload 6, 2) := by decide +kernel
theorem dX1_bestMove_63 : decode cX1_bestMove 63 = .ok (.iload 4, 2) := by decide +kernel
theorem dX1_bestMove_65 : decode cX1_bestMove 65 = .ok (.if_icmp .le 10, 3) := by decide +kernel
theorem dX1_bestMove_68 : decode cX1_bestMove 68 = .ok (.iload 6, 2) := by decide +kernel
theorem dX1_bestMove_70 : decode cX1_bestMove 70 = .ok (.istore 4, 2) := by decide +kernel
theorem dX1_bestMove_72 : decode cX1_bestMove 72 = .ok (.iload 5, 2) := by decide +kernel
theorem dX1_bestMove_74 : decode cX1_bestMove 74 = .ok (.istore_n 3, 1) := by decide +kernel
theorem dX1_bestMove_75 : decode cX1_bestMove 75 = .ok (.iinc 5 1, 3) := by decide +kernel
theorem dX1_bestMove_78 : decode cX1_bestMove 78 = .ok (.goto (-55), 3) := by decide +kernel
theorem dX1_bestMove_81 : decode cX1_bestMove 81 = .ok (.iload_n 3, 1) := by decide +kernel
theorem dX1_bestMove_82 : decode cX1_bestMove 82 = .ok (.ireturn, 1) := by decide +kernel
theorem dX1_bestReply_0 : decode cX1_bestReply 0 = .ok (.iconst (-1), 1) := by decide +kernel
theorem dX1_bestReply_1 : decode cX1_bestReply 1 = .ok (.istore_n 3, 1) := by decide +kernel
theorem dX1_bestReply_2 : decode cX1_bestReply 2 = .ok (.aload_n 0, 1) := by decide +kernel
theorem dX1_bestReply_3 : decode cX1_bestReply 3 = .ok (.aload_n 0, 1) := by decide +kernel
theorem dX1_bestReply_4 : decode cX1_bestReply 4 = .ok (.iload_n 2, 1) := by decide +kernel
theorem dX1_bestReply_5 : decode cX1_bestReply 5 = .ok (.iconst (-1), 1) := by decide +kernel
theorem dX1_bestReply_6 : decode cX1_bestReply 6 = .ok (.invokevirtual 73, 3) := by decide +kernel
theorem dX1_bestReply_9 : decode cX1_bestReply 9 = .ok (.iload_n 1, 1) := by decide +kernel
theorem dX1_bestReply_10 : decode cX1_bestReply 10 = .ok (.invokevirtual 83, 3) := by decide +kernel
theorem dX1_bestReply_13 : decode cX1_bestReply 13 = .ok (.istore 4, 2) := by decide +kernel
theorem dX1_bestReply_15 : decode cX1_bestReply 15 = .ok (.iconst 0, 1) := by decide +kernel
theorem dX1_bestReply_16 : decode cX1_bestReply 16 = .ok (.istore 5, 2) := by decide +kernel
theorem dX1_bestReply_18 : decode cX1_bestReply 18 = .ok (.iload 5, 2) := by decide +kernel
theorem dX1_bestReply_20 : decode cX1_bestReply 20 = .ok (.bipush 24, 2) := by decide +kernel
theorem dX1_bestReply_22 : decode cX1_bestReply 22 = .ok (.if_icmp .ge 48, 3) := by decide +kernel
theorem dX1_bestReply_25 : decode cX1_bestReply 25 = .ok (.aload_n 0, 1) := by decide +kernel
theorem dX1_bestReply_26 : decode cX1_bestReply 26 = .ok (.iload_n 1, 1) := by decide +kernel
theorem dX1_bestReply_27 : decode cX1_bestReply 27 = .ok (.iload 5, 2) := by decide +kernel
theorem dX1_bestReply_29 : decode cX1_bestReply 29 = .ok (.iload_n 2, 1) := by decide +kernel
theorem dX1_bestReply_30 : decode cX1_bestReply 30 = .ok (.invokevirtual 86, 3) := by decide +kernel
theorem dX1_bestReply_33 : decode cX1_bestReply 33 = .ok (.ifCond .eq 31, 3) := by decide +kernel
theorem dX1_bestReply_36 : decode cX1_bestReply 36 = .ok (.aload_n 0, 1) := by decide +kernel
theorem dX1_bestReply_37 : decode cX1_bestReply 37 = .ok (.aload_n 0, 1) := by decide +kernel
theorem dX1_bestReply_38 : decode cX1_bestReply 38 = .ok (.iload_n 2, 1) := by decide +kernel
theorem dX1_bestReply_39 : decode cX1_bestReply 39 = .ok (.iload 5, 2) := by decide +kernel
theorem dX1_bestReply_41 : decode cX1_bestReply 41 = .ok (.invokevirtual 73, 3) := by decide +kernel
theorem dX1_bestReply_44 : decode cX1_bestReply 44 = .ok (.iload_n 1, 1) := by decide +kernel
theorem dX1_bestReply_45 : decode cX1_bestReply 45 = .ok (.invokevirtual 83, 3) := by decide +kernel
theorem dX1_bestReply_48 : decode cX1_bestReply 48 = .ok (.istore 6, 2) := by decide +kernel
theorem dX1_bestReply_50 : decode cX1_bestReply 50 = .ok (.iload 6, 2) := by decide +kernel
theorem dX1_bestReply_52 : decode cX1_bestReply 52 = .ok (.iload 4, 2) := by decide +kernel
theorem dX1_bestReply_54 : decode cX1_bestReply 54 = .ok (.if_icmp .le 10, 3) := by decide +kernel
theorem dX1_bestReply_57 : decode cX1_bestReply 57 = .ok (.iload 6, 2) := by decide +kernel
theorem dX1_bestReply_59 : decode cX1_bestReply 59 = .ok (.istore 4, 2) := by decide +kernel
theorem dX1_bestReply_61 : decode cX1_bestReply 61 = .ok (.iload 5, 2) := by decide +kernel
theorem dX1_bestReply_63 : decode cX1_bestReply 63 = .ok (.istore_n 3, 1) := by decide +kernel
theorem dX1_bestReply_64 : decode cX1_bestReply 64 = .ok (.iinc 5 1, 3) := by decide +kernel
theorem dX1_bestReply_67 : decode cX1_bestReply 67 = .ok (.goto (-49), 3) := by decide +kernel
theorem dX1_bestReply_70 : decode cX1_bestReply 70 = .ok (.iload_n 3, 1) := by decide +kernel
theorem dX1_bestReply_71 : decode cX1_bestReply 71 = .ok (.ireturn, 1) := by decide +kernel
theorem dX1_canTake_0 : decode cX1_canTake 0 = .ok (.iload_n 3, 1) := by decide +kernel
theorem dX1_canTake_1 : decode cX1_canTake 1 = .ok (.iconst (-1), 1) := by decide +kernel
theorem dX1_canTake_2 : decode cX1_canTake 2 = .ok (.if_icmp .ne 13, 3) := by decide +kernel
theorem dX1_canTake_5 : decode cX1_canTake 5 = .ok (.aload_n 0, 1) := by decide +kernel
theorem dX1_canTake_6 : decode cX1_canTake 6 = .ok (.getfield 12, 3) := by decide +kernel
theorem dX1_canTake_9 : decode cX1_canTake 9 = .ok (.getfield 41, 3) := by decide +kernel
theorem dX1_canTake_12 : decode cX1_canTake 12 = .ok (.goto 12, 3) := by decide +kernel
theorem dX1_canTake_15 : decode cX1_canTake 15 = .ok (.aload_n 0, 1) := by decide +kernel
theorem dX1_canTake_16 : decode cX1_canTake 16 = .ok (.getfield 12, 3) := by decide +kernel
theorem dX1_canTake_19 : decode cX1_canTake 19 = .ok (.getfield 41, 3) := by decide +kernel
theorem dX1_canTake_22 : decode cX1_canTake 22 = .ok (.iconst 1, 1) := by decide +kernel
theorem dX1_canTake_23 : decode cX1_canTake 23 = .ok (.iadd, 1) := by decide +kernel
theorem dX1_canTake_24 : decode cX1_canTake 24 = .ok (.istore 4, 2) := by decide +kernel
theorem dX1_canTake_26 : decode cX1_canTake 26 = .ok (.iload 4, 2) := by decide +kernel
theorem dX1_canTake_28 : decode cX1_canTake 28 = .ok (.bipush 12, 2) := by decide +kernel
theorem dX1_canTake_30 : decode cX1_canTake 30 = .ok (.if_icmp .lt 5, 3) := by decide +kernel
theorem dX1_canTake_33 : decode cX1_canTake 33 = .ok (.iconst 0, 1) := by decide +kernel
theorem dX1_canTake_34 : decode cX1_canTake 34 = .ok (.ireturn, 1) := by decide +kernel
theorem dX1_canTake_35 : decode cX1_canTake 35 = .ok (.iload_n 3, 1) := by decide +kernel
theorem dX1_canTake_36 : decode cX1_canTake 36 = .ok (.iconst (-1), 1) := by decide +kernel
theorem dX1_canTake_37 : decode cX1_canTake 37 = .ok (.if_icmp .eq 21, 3) := by decide +kernel
theorem dX1_canTake_40 : decode cX1_canTake 40 = .ok (.iload_n 2, 1) := by decide +kernel
theorem dX1_canTake_41 : decode cX1_canTake 41 = .ok (.bipush 12, 2) := by decide +kernel
theorem dX1_canTake_43 : decode cX1_canTake 43 = .ok (.aload_n 0, 1) := by decide +kernel
theorem dX1_canTake_44 : decode cX1_canTake 44 = .ok (.getfield 12, 3) := by decide +kernel
theorem dX1_canTake_47 : decode cX1_canTake 47 = .ok (.getfield 41, 3) := by decide +kernel
theorem dX1_canTake_50 : decode cX1_canTake 50 = .ok (.iadd, 1) := by decide +kernel
theorem dX1_canTake_51 : decode cX1_canTake 51 = .ok (.if_icmp .ne 7, 3) := by decide +kernel
theorem dX1_canTake_54 : decode cX1_canTake 54 = .ok (.iconst 1, 1) := by decide +kernel
theorem dX1_canTake_55 : decode cX1_canTake 55 = .ok (.goto 4, 3) := by decide +kernel
theorem dX1_canTake_58 : decode cX1_canTake 58 = .ok (.iconst 0, 1) := by decide +kernel
theorem dX1_canTake_59 : decode cX1_canTake 59 = .ok (.istore 5, 2) := by decide +kernel
theorem dX1_canTake_61 : decode cX1_canTake 61 = .ok (.iload 5, 2) := by decide +kernel
theorem dX1_canTake_63 : decode cX1_canTake 63 = .ok (.ifCond .eq 10, 3) := by decide +kernel
theorem dX1_canTake_66 : decode cX1_canTake 66 = .ok (.aload_n 0, 1) := by decide +kernel
theorem dX1_canTake_67 : decode cX1_canTake 67 = .ok (.getfield 39, 3) := by decide +kernel
theorem dX1_canTake_70 : decode cX1_canTake 70 = .ok (.goto 8, 3) := by decide +kernel
theorem dX1_canTake_73 : decode cX1_canTake 73 = .ok (.aload_n 0, 1) := by decide +kernel
theorem dX1_canTake_74 : decode cX1_canTake 74 = .ok (.iload_n 2, 1) := by decide +kernel
theorem dX1_canTake_75 : decode cX1_canTake 75 = .ok (.invokevirtual 64, 3) := by decide +kernel
theorem dX1_canTake_78 : decode cX1_canTake 78 = .ok (.iload_n 1, 1) := by decide +kernel
theorem dX1_canTake_79 : decode cX1_canTake 79 = .ok (.invokestatic 67, 3) := by decide +kernel
theorem dX1_canTake_82 : decode cX1_canTake 82 = .ok (.iconst 1, 1) := by decide +kernel
theorem dX1_canTake_83 : decode cX1_canTake 83 = .ok (.if_icmp .ne 7, 3) := by decide +kernel
theorem dX1_canTake_86 : decode cX1_canTake 86 = .ok (.iconst 1, 1) := by decide +kernel
theorem dX1_canTake_87 : decode cX1_canTake 87 = .ok (.goto 4, 3) := by decide +kernel
theorem dX1_canTake_90 : decode cX1_canTake 90 = .ok (.iconst 0, 1) := by decide +kernel
theorem dX1_canTake_91 : decode cX1_canTake 91 = .ok (.ireturn, 1) := by decide +kernel
theorem dX1_worthOf_0 : decode cX1_worthOf 0 = .ok (.iconst 0, 1) := by decide +kernel
theorem dX1_worthOf_1 : decode cX1_worthOf 1 = .ok (.istore_n 3, 1) := by decide +kernel
theorem dX1_worthOf_2 : decode cX1_worthOf 2 = .ok (.iconst 0, 1) := by decide +kernel
theorem dX1_worthOf_3 : decode cX1_worthOf 3 = .ok (.istore 4, 2) := by decide +kernel
theorem dX1_worthOf_5 : decode cX1_worthOf 5 = .ok (.iload 4, 2) := by decide +kernel
theorem dX1_worthOf_7 : decode cX1_worthOf 7 = .ok (.aload_n 0, 1) := by decide +kernel
theorem dX1_worthOf_8 : decode cX1_worthOf 8 = .ok (.getfield 22, 3) := by decide +kernel
theorem dX1_worthOf_11 : decode cX1_worthOf 11 = .ok (.getfield 56, 3) := by decide +kernel
theorem dX1_worthOf_14 : decode cX1_worthOf 14 = .ok (.if_icmp .ge 31, 3) := by decide +kernel
theorem dX1_worthOf_17 : decode cX1_worthOf 17 = .ok (.iload_n 1, 1) := by decide +kernel
theorem dX1_worthOf_18 : decode cX1_worthOf 18 = .ok (.iload 4, 2) := by decide +kernel
theorem dX1_worthOf_20 : decode cX1_worthOf 20 = .ok (.invokestatic 67, 3) := by decide +kernel
theorem dX1_worthOf_23 : decode cX1_worthOf 23 = .ok (.iconst 1, 1) := by decide +kernel
theorem dX1_worthOf_24 : decode cX1_worthOf 24 = .ok (.if_icmp .ne 15, 3) := by decide +kernel
theorem dX1_worthOf_27 : decode cX1_worthOf 27 = .ok (.iload_n 3, 1) := by decide +kernel
theorem dX1_worthOf_28 : decode cX1_worthOf 28 = .ok (.aload_n 0, 1) := by decide +kernel
theorem dX1_worthOf_29 : decode cX1_worthOf 29 = .ok (.getfield 25, 3) := by decide +kernel
theorem dX1_worthOf_32 : decode cX1_worthOf 32 = .ok (.iload_n 2, 1) := by decide +kernel
theorem dX1_worthOf_33 : decode cX1_worthOf 33 = .ok (.aaload, 1) := by decide +kernel
theorem dX1_worthOf_34 : decode cX1_worthOf 34 = .ok (.iload 4, 2) := by decide +kernel
theorem dX1_worthOf_36 : decode cX1_worthOf 36 = .ok (.iaload, 1) := by decide +kernel
theorem dX1_worthOf_37 : decode cX1_worthOf 37 = .ok (.iadd, 1) := by decide +kernel
theorem dX1_worthOf_38 : decode cX1_worthOf 38 = .ok (.istore_n 3, 1) := by decide +kernel
theorem dX1_worthOf_39 : decode cX1_worthOf 39 = .ok (.iinc 4 1, 3) := by decide +kernel
theorem dX1_worthOf_42 : decode cX1_worthOf 42 = .ok (.goto (-37), 3) := by decide +kernel
theorem dX1_worthOf_45 : decode cX1_worthOf 45 = .ok (.iload_n 3, 1) := by decide +kernel
theorem dX1_worthOf_46 : decode cX1_worthOf 46 = .ok (.ireturn, 1) := by decide +kernel
theorem dX1_draw_0 : decode cX1_draw 0 = .ok (.aload_n 0, 1) := by decide +kernel
theorem dX1_draw_1 : decode cX1_draw 1 = .ok (.iload_n 1, 1) := by decide +kernel
theorem dX1_draw_2 : decode cX1_draw 2 = .ok (.putfield 89, 3) := by decide +kernel
theorem dX1_draw_5 : decode cX1_draw 5 = .ok (.aload_n 0, 1) := by decide +kernel
theorem dX1_draw_6 : decode cX1_draw 6 = .ok (.aload_n 0, 1) := by decide +kernel
theorem dX1_draw_7 : decode cX1_draw 7 = .ok (.getfield 12, 3) := by decide +kernel
theorem dX1_draw_10 : decode cX1_draw 10 = .ok (.aload_n 0, 1) := by decide +kernel
theorem dX1_draw_11 : decode cX1_draw 11 = .ok (.getfield 32, 3) := by decide +kernel
theorem dX1_draw_14 : decode cX1_draw 14 = .ok (.invokevirtual 48, 3) := by decide +kernel
theorem dX1_draw_17 : decode cX1_draw 17 = .ok (.putfield 92, 3) := by decide +kernel
theorem dX1_draw_20 : decode cX1_draw 20 = .ok (.aload_n 0, 1) := by decide +kernel
theorem dX1_draw_21 : decode cX1_draw 21 = .ok (.iconst 0, 1) := by decide +kernel
theorem dX1_draw_22 : decode cX1_draw 22 = .ok (.putfield 95, 3) := by decide +kernel
theorem dX1_draw_25 : decode cX1_draw 25 = .ok (.aload_n 0, 1) := by decide +kernel
theorem dX1_draw_26 : decode cX1_draw 26 = .ok (.getfield 39, 3) := by decide +kernel
theorem dX1_draw_29 : decode cX1_draw 29 = .ok (.istore_n 3, 1) := by decide +kernel
theorem dX1_draw_30 : decode cX1_draw 30 = .ok (.iload_n 2, 1) := by decide +kernel
theorem dX1_draw_31 : decode cX1_draw 31 = .ok (.bipush 12, 2) := by decide +kernel
theorem dX1_draw_33 : decode cX1_draw 33 = .ok (.aload_n 0, 1) := by decide +kernel
theorem dX1_draw_34 : decode cX1_draw 34 = .ok (.getfield 12, 3) := by decide +kernel
theorem dX1_draw_37 : decode cX1_draw 37 = .ok (.getfield 41, 3) := by decide +kernel
theorem dX1_draw_40 : decode cX1_draw 40 = .ok (.isub, 1) := by decide +kernel
theorem dX1_draw_41 : decode cX1_draw 41 = .ok (.invokestatic 98, 3) := by decide +kernel
theorem dX1_draw_44 : decode cX1_draw 44 = .ok (.istore 4, 2) := by decide +kernel
theorem dX1_draw_46 : decode cX1_draw 46 = .ok (.aload_n 0, 1) := by decide +kernel
theorem dX1_draw_47 : decode cX1_draw 47 = .ok (.getfield 95, 3) := by decide +kernel
theorem dX1_draw_50 : decode cX1_draw 50 = .ok (.iload 4, 2) := by decide +kernel
theorem dX1_draw_52 : decode cX1_draw 52 = .ok (.if_icmp .ge 82, 3) := by decide +kernel
theorem dX1_draw_55 : decode cX1_draw 55 = .ok (.iload_n 3, 1) := by decide +kernel
theorem dX1_draw_56 : decode cX1_draw 56 = .ok (.ifCond .eq 78, 3) := by decide +kernel
theorem dX1_draw_59 : decode cX1_draw 59 = .ok (.aload_n 0, 1) := by decide +kernel
theorem dX1_draw_60 : decode cX1_draw 60 = .ok (.iload_n 3, 1) := by decide +kernel
theorem dX1_draw_61 : decode cX1_draw 61 = .ok (.invokevirtual 103, 3) := by decide +kernel
theorem dX1_draw_64 : decode cX1_draw 64 = .ok (.istore 5, 2) := by decide +kernel
theorem dX1_draw_66 : decode cX1_draw 66 = .ok (.aload_n 0, 1) := by decide +kernel
theorem dX1_draw_67 : decode cX1_draw 67 = .ok (.getfield 22, 3) := by decide +kernel
theorem dX1_draw_70 : decode cX1_draw 70 = .ok (.aload_n 0, 1) := by decide +kernel
theorem dX1_draw_71 : decode cX1_draw 71 = .ok (.getfield 92, 3) := by decide +kernel
theorem dX1_draw_74 : decode cX1_draw 74 = .ok (.invokevirtual 51, 3) := by decide +kernel
theorem dX1_draw_77 : decode cX1_draw 77 = .ok (.aload_n 0, 1) := by decide +kernel
theorem dX1_draw_78 : decode cX1_draw 78 = .ok (.getfield 22, 3) := by decide +kernel
theorem dX1_draw_81 : decode cX1_draw 81 = .ok (.iload 5, 2) := by decide +kernel
theorem dX1_draw_83 : decode cX1_draw 83 = .ok (.invokevirtual 106, 3) := by decide +kernel
theorem dX1_draw_86 : decode cX1_draw 86 = .ok (.iconst (-1), 1) := by decide +kernel
theorem dX1_draw_87 : decode cX1_draw 87 = .ok (.ixor, 1) := by decide +kernel
theorem dX1_draw_88 : decode cX1_draw 88 = .ok (.iand, 1) := by decide +kernel
theorem dX1_draw_89 : decode cX1_draw 89 = .ok (.istore 6, 2) := by decide +kernel
theorem dX1_draw_91 : decode cX1_draw 91 = .ok (.iload 6, 2) := by decide +kernel
theorem dX1_draw_93 : decode cX1_draw 93 = .ok (.ifCond .ne 6, 3) := by decide +kernel
theorem dX1_draw_96 : decode cX1_draw 96 = .ok (.goto 38, 3) := by decide +kernel
theorem dX1_draw_99 : decode cX1_draw 99 = .ok (.aload_n 0, 1) := by decide +kernel
theorem dX1_draw_100 : decode cX1_draw 100 = .ok (.dup, 1) := by decide +kernel
theorem dX1_draw_101 : decode cX1_draw 101 = .ok (.getfield 92, 3) := by decide +kernel
theorem dX1_draw_104 : decode cX1_draw 104 = .ok (.aload_n 0, 1) := by decide +kernel
theorem dX1_draw_105 : decode cX1_draw 105 = .ok (.iload 6, 2) := by decide +kernel
theorem dX1_draw_107 : decode cX1_draw 107 = .ok (.invokevirtual 103, 3) := by decide +kernel
theorem dX1_draw_110 : decode cX1_draw 110 = .ok (.ior, 1) := by decide +kernel
theorem dX1_draw_111 : decode cX1_draw 111 = .ok (.putfield 92, 3) := by decide +kernel
theorem dX1_draw_114 : decode cX1_draw 114 = .ok (.iload_n 3, 1) := by decide +kernel
theorem dX1_draw_115 : decode cX1_draw 115 = .ok (.iload 5, 2) := by decide +kernel
theorem dX1_draw_117 : decode cX1_draw 117 = .ok (.iconst (-1), 1) := by decide +kernel
theorem dX1_draw_118 : decode cX1_draw 118 = .ok (.ixor, 1) := by decide +kernel
theorem dX1_draw_119 : decode cX1_draw 119 = .ok (.iand, 1) := by decide +kernel
theorem dX1_draw_120 : decode cX1_draw 120 = .ok (.istore_n 3, 1) := by decide +kernel
theorem dX1_draw_121 : decode cX1_draw 121 = .ok (.aload_n 0, 1) := by decide +kernel
theorem dX1_draw_122 : decode cX1_draw 122 = .ok (.dup, 1) := by decide +kernel
theorem dX1_draw_123 : decode cX1_draw 123 = .ok (.getfield 95, 3) := by decide +kernel
theorem dX1_draw_126 : decode cX1_draw 126 = .ok (.iconst 1, 1) := by decide +kernel
theorem dX1_draw_127 : decode cX1_draw 127 = .ok (.iadd, 1) := by decide +kernel
theorem dX1_draw_128 : decode cX1_draw 128 = .ok (.putfield 95, 3) := by decide +kernel
theorem dX1_draw_131 : decode cX1_draw 131 = .ok (.goto (-85), 3) := by decide +kernel
theorem dX1_draw_134 : decode cX1_draw 134 = .ok (.return_, 1) := by decide +kernel
theorem dX1_lotOf_0 : decode cX1_lotOf 0 = .ok (.iload_n 1, 1) := by decide +kernel
theorem dX1_lotOf_1 : decode cX1_lotOf 1 = .ok (.invokestatic 109, 3) := by decide +kernel
theorem dX1_lotOf_4 : decode cX1_lotOf 4 = .ok (.istore_n 2, 1) := by decide +kernel
theorem dX1_lotOf_5 : decode cX1_lotOf 5 = .ok (.iload_n 2, 1) := by decide +kernel
theorem dX1_lotOf_6 : decode cX1_lotOf 6 = .ok (.ifCond .ne 5, 3) := by decide +kernel
theorem dX1_lotOf_9 : decode cX1_lotOf 9 = .ok (.iconst 0, 1) := by decide +kernel
theorem dX1_lotOf_10 : decode cX1_lotOf 10 = .ok (.ireturn, 1) := by decide +kernel
theorem dX1_lotOf_11 : decode cX1_lotOf 11 = .ok (.aload_n 0, 1) := by decide +kernel
theorem dX1_lotOf_12 : decode cX1_lotOf 12 = .ok (.ldc 114, 2) := by decide +kernel
theorem dX1_lotOf_14 : decode cX1_lotOf 14 = .ok (.aload_n 0, 1) := by decide +kernel
theorem dX1_lotOf_15 : decode cX1_lotOf 15 = .ok (.getfield 89, 3) := by decide +kernel
theorem dX1_lotOf_18 : decode cX1_lotOf 18 = .ok (.imul, 1) := by decide +kernel
theorem dX1_lotOf_19 : decode cX1_lotOf 19 = .ok (.sipush 12345, 3) := by decide +kernel
theorem dX1_lotOf_22 : decode cX1_lotOf 22 = .ok (.iadd, 1) := by decide +kernel
theorem dX1_lotOf_23 : decode cX1_lotOf 23 = .ok (.putfield 89, 3) := by decide +kernel
theorem dX1_lotOf_26 : decode cX1_lotOf 26 = .ok (.aload_n 0, 1) := by decide +kernel
theorem dX1_lotOf_27 : decode cX1_lotOf 27 = .ok (.getfield 89, 3) := by decide +kernel
theorem dX1_lotOf_30 : decode cX1_lotOf 30 = .ok (.bipush 16, 2) := by decide +kernel
theorem dX1_lotOf_32 : decode cX1_lotOf 32 = .ok (.iushr, 1) := by decide +kernel
theorem dX1_lotOf_33 : decode cX1_lotOf 33 = .ok (.iload_n 2, 1) := by decide +kernel
theorem dX1_lotOf_34 : decode cX1_lotOf 34 = .ok (.irem, 1) := by decide +kernel
theorem dX1_lotOf_35 : decode cX1_lotOf 35 = .ok (.istore_n 3, 1) := by decide +kernel
theorem dX1_lotOf_36 : decode cX1_lotOf 36 = .ok (.iload_n 1, 1) := by decide +kernel
theorem dX1_lotOf_37 : decode cX1_lotOf 37 = .ok (.istore 4, 2) := by decide +kernel
theorem dX1_lotOf_39 : decode cX1_lotOf 39 = .ok (.iconst 0, 1) := by decide +kernel
theorem dX1_lotOf_40 : decode cX1_lotOf 40 = .ok (.istore 5, 2) := by decide +kernel
theorem dX1_lotOf_42 : decode cX1_lotOf 42 = .ok (.iload 5, 2) := by decide +kernel
theorem dX1_lotOf_44 : decode cX1_lotOf 44 = .ok (.iload_n 3, 1) := by decide +kernel
theorem dX1_lotOf_45 : decode cX1_lotOf 45 = .ok (.if_icmp .ge 18, 3) := by decide +kernel
theorem dX1_lotOf_48 : decode cX1_lotOf 48 = .ok (.iload 4, 2) := by decide +kernel
theorem dX1_lotOf_50 : decode cX1_lotOf 50 = .ok (.iload 4, 2) := by decide +kernel
theorem dX1_lotOf_52 : decode cX1_lotOf 52 = .ok (.iconst 1, 1) := by decide +kernel
theorem dX1_lotOf_53 : decode cX1_lotOf 53 = .ok (.isub, 1) := by decide +kernel
theorem dX1_lotOf_54 : decode cX1_lotOf 54 = .ok (.iand, 1) := by decide +kernel
theorem dX1_lotOf_55 : decode cX1_lotOf 55 = .ok (.istore 4, 2) := by decide +kernel
theorem dX1_lotOf_57 : decode cX1_lotOf 57 = .ok (.iinc 5 1, 3) := by decide +kernel
theorem dX1_lotOf_60 : decode cX1_lotOf 60 = .ok (.goto (-18), 3) := by decide +kernel
theorem dX1_lotOf_63 : decode cX1_lotOf 63 = .ok (.iload 4, 2) := by decide +kernel
theorem dX1_lotOf_65 : decode cX1_lotOf 65 = .ok (.iload 4, 2) := by decide +kernel
theorem dX1_lotOf_67 : decode cX1_lotOf 67 = .ok (.ineg, 1) := by decide +kernel
theorem dX1_lotOf_68 : decode cX1_lotOf 68 = .ok (.iand, 1) := by decide +kernel
theorem dX1_lotOf_69 : decode cX1_lotOf 69 = .ok (.ireturn, 1) := by decide +kernel
theorem dX2_init_0 : decode cX2_init 0 = .ok (.aload_n 0, 1) := by decide +kernel
theorem dX2_init_1 : decode cX2_init 1 = .ok (.invokespecial 3, 3) := by decide +kernel
theorem dX2_init_4 : decode cX2_init 4 = .ok (.aload_n 0, 1) := by decide +kernel
theorem dX2_init_5 : decode cX2_init 5 = .ok (.bipush 60, 2) := by decide +kernel
theorem dX2_init_7 : decode cX2_init 7 = .ok (.newarray .int, 2) := by decide +kernel
theorem dX2_init_9 : decode cX2_init 9 = .ok (.putfield 9, 3) := by decide +kernel
theorem dX2_init_12 : decode cX2_init 12 = .ok (.aload_n 0, 1) := by decide +kernel
theorem dX2_init_13 : decode cX2_init 13 = .ok (.iconst 1, 1) := by decide +kernel
theorem dX2_init_14 : decode cX2_init 14 = .ok (.putfield 15, 3) := by decide +kernel
theorem dX2_init_17 : decode cX2_init 17 = .ok (.return_, 1) := by decide +kernel
theorem dX2_begin_0 : decode cX2_begin 0 = .ok (.aload_n 0, 1) := by decide +kernel
theorem dX2_begin_1 : decode cX2_begin 1 = .ok (.iconst 0, 1) := by decide +kernel
theorem dX2_begin_2 : decode cX2_begin 2 = .ok (.putfield 15, 3) := by decide +kernel
theorem dX2_begin_5 : decode cX2_begin 5 = .ok (.aload_n 0, 1) := by decide +kernel
theorem dX2_begin_6 : decode cX2_begin 6 = .ok (.iload_n 1, 1) := by decide +kernel
theorem dX2_begin_7 : decode cX2_begin 7 = .ok (.putfield 19, 3) := by decide +kernel
theorem dX2_begin_10 : decode cX2_begin 10 = .ok (.aload_n 0, 1) := by decide +kernel
theorem dX2_begin_11 : decode cX2_begin 11 = .ok (.iload_n 2, 1) := by decide +kernel
theorem dX2_begin_12 : decode cX2_begin 12 = .ok (.putfield 23, 3) := by decide +kernel
theorem dX2_begin_15 : decode cX2_begin 15 = .ok (.iconst 0, 1) := by decide +kernel
theorem dX2_begin_16 : decode cX2_begin 16 = .ok (.istore_n 3, 1) := by decide +kernel
theorem dX2_begin_17 : decode cX2_begin 17 = .ok (.iload_n 3, 1) := by decide +kernel
theorem dX2_begin_18 : decode cX2_begin 18 = .ok (.bipush 60, 2) := by decide +kernel
theorem dX2_begin_20 : decode cX2_begin 20 = .ok (.if_icmp .ge 16, 3) := by decide +kernel
theorem dX2_begin_23 : decode cX2_begin 23 = .ok (.aload_n 0, 1) := by decide +kernel
theorem dX2_begin_24 : decode cX2_begin 24 = .ok (.getfield 9, 3) := by decide +kernel
theorem dX2_begin_27 : decode cX2_begin 27 = .ok (.iload_n 3, 1) := by decide +kernel
theorem dX2_begin_28 : decode cX2_begin 28 = .ok (.iconst 0, 1) := by decide +kernel
theorem dX2_begin_29 : decode cX2_begin 29 = .ok (.iastore, 1) := by decide +kernel
theorem dX2_begin_30 : decode cX2_begin 30 = .ok (.iinc 3 1, 3) := by decide +kernel
theorem dX2_begin_33 : decode cX2_begin 33 = .ok (.goto (-16), 3) := by decide +kernel
theorem dX2_begin_36 : decode cX2_begin 36 = .ok (.return_, 1) := by decide +kernel
theorem dX2_findingAt_0 : decode cX2_findingAt 0 = .ok (.aload_n 0, 1) := by decide +kernel
theorem dX2_findingAt_1 : decode cX2_findingAt 1 = .ok (.getfield 15, 3) := by decide +kernel
theorem dX2_findingAt_4 : decode cX2_findingAt 4 = .ok (.ifCond .eq 5, 3) := by decide +kernel
theorem dX2_findingAt_7 : decode cX2_findingAt 7 = .ok (.iconst 1, 1) := by decide +kernel
theorem dX2_findingAt_8 : decode cX2_findingAt 8 = .ok (.ireturn, 1) := by decide +kernel
theorem dX2_findingAt_9 : decode cX2_findingAt 9 = .ok (.iload_n 1, 1) := by decide +kernel
theorem dX2_findingAt_10 : decode cX2_findingAt 10 = .ok (.aload_n 0, 1) := by decide +kernel
theorem dX2_findingAt_11 : decode cX2_findingAt 11 = .ok (.getfield 19, 3) := by decide +kernel
theorem dX2_findingAt_14 : decode cX2_findingAt 14 = .ok (.if_icmp .eq 5, 3) := by decide +kernel
theorem dX2_findingAt_17 : decode cX2_findingAt 17 = .ok (.iconst 3, 1) := by decide +kernel
theorem dX2_findingAt_18 : decode cX2_findingAt 18 = .ok (.ireturn, 1) := by decide +kernel
theorem dX2_findingAt_19 : decode cX2_findingAt 19 = .ok (.iload_n 2, 1) := by decide +kernel
theorem dX2_findingAt_20 : decode cX2_findingAt 20 = .ok (.aload_n 0, 1) := by decide +kernel
theorem dX2_findingAt_21 : decode cX2_findingAt 21 = .ok (.getfield 23, 3) := by decide +kernel
theorem dX2_findingAt_24 : decode cX2_findingAt 24 = .ok (.invokestatic 26, 3) := by decide +kernel
theorem dX2_findingAt_27 : decode cX2_findingAt 27 = .ok (.ifCond .eq 7, 3) := by decide +kernel
theorem dX2_findingAt_30 : decode cX2_findingAt 30 = .ok (.iconst 0, 1) := by decide +kernel
theorem dX2_findingAt_31 : decode cX2_findingAt 31 = .ok (.goto 4, 3) := by decide +kernel
theorem dX2_findingAt_34 : decode cX2_findingAt 34 = .ok (.iconst 2, 1) := by decide +kernel
theorem dX2_findingAt_35 : decode cX2_findingAt 35 = .ok (.ireturn, 1) := by decide +kernel
theorem dX2_hasItems_0 : decode cX2_hasItems 0 = .ok (.iload_n 1, 1) := by decide +kernel
theorem dX2_hasItems_1 : decode cX2_hasItems 1 = .ok (.ifCond .lt 29, 3) := by decide +kernel
theorem dX2_hasItems_4 : decode cX2_hasItems 4 = .ok (.iload_n 2, 1) := by decide +kernel
theorem dX2_hasItems_5 : decode cX2_hasItems 5 = .ok (.ifCond .lt 25, 3) := by decide +kernel
theorem dX2_hasItems_8 : decode cX2_hasItems 8 = .ok (.iload_n 1, 1) := by decide +kernel
theorem dX2_hasItems_9 : decode cX2_hasItems 9 = .ok (.aload_n 0, 1) := by decide +kernel
theorem dX2_hasItems_10 : decode cX2_hasItems 10 = .ok (.getfield 23, 3) := by decide +kernel
theorem dX2_hasItems_13 : decode cX2_hasItems 13 = .ok (.if_icmp .gt 17, 3) := by decide +kernel
theorem dX2_hasItems_16 : decode cX2_hasItems 16 = .ok (.iload_n 2, 1) := by decide +kernel
theorem dX2_hasItems_17 : decode cX2_hasItems 17 = .ok (.aload_n 0, 1) := by decide +kernel
theorem dX2_hasItems_18 : decode cX2_hasItems 18 = .ok (.getfield 23, 3) := by decide +kernel
theorem dX2_hasItems_21 : decode cX2_hasItems 21 = .ok (.iload_n 1, 1) := by decide +kernel
theorem dX2_hasItems_22 : decode cX2_hasItems 22 = .ok (.isub, 1) := by decide +kernel
theorem dX2_hasItems_23 : decode cX2_hasItems 23 = .ok (.if_icmp .gt 7, 3) := by decide +kernel
theorem dX2_hasItems_26 : decode cX2_hasItems 26 = .ok (.iconst 1, 1) := by decide +kernel
theorem dX2_hasItems_27 : decode cX2_hasItems 27 = .ok (.goto 4, 3) := by decide +kernel
theorem dX2_hasItems_30 : decode cX2_hasItems 30 = .ok (.iconst 0, 1) := by decide +kernel
theorem dX2_hasItems_31 : decode cX2_hasItems 31 = .ok (.ireturn, 1) := by decide +kernel
theorem dX2_put_0 : decode cX2_put 0 = .ok (.iload_n 1, 1) := by decide +kernel
theorem dX2_put_1 : decode cX2_put 1 = .ok (.aload_n 0, 1) := by decide +kernel
theorem dX2_put_2 : decode cX2_put 2 = .ok (.getfield 23, 3) := by decide +kernel
theorem dX2_put_5 : decode cX2_put 5 = .ok (.invokestatic 26, 3) := by decide +kernel
theorem dX2_put_8 : decode cX2_put 8 = .ok (.ifCond .ne 4, 3) := by decide +kernel
theorem dX2_put_11 : decode cX2_put 11 = .ok (.return_, 1) := by decide +kernel
theorem dX2_put_12 : decode cX2_put 12 = .ok (.aload_n 0, 1) := by decide +kernel
theorem dX2_put_13 : decode cX2_put 13 = .ok (.getfield 19, 3) := by decide +kernel
theorem dX2_put_16 : decode cX2_put 16 = .ok (.ifCond .ne 14, 3) := by decide +kernel
theorem dX2_put_19 : decode cX2_put 19 = .ok (.aload_n 0, 1) := by decide +kernel
theorem dX2_put_20 : decode cX2_put 20 = .ok (.getfield 9, 3) := by decide +kernel
theorem dX2_put_23 : decode cX2_put 23 = .ok (.iload_n 1, 1) := by decide +kernel
theorem dX2_put_24 : decode cX2_put 24 = .ok (.iload_n 2, 1) := by decide +kernel
theorem dX2_put_25 : decode cX2_put 25 = .ok (.i2b, 1) := by decide +kernel
theorem dX2_put_26 : decode cX2_put 26 = .ok (.iastore, 1) := by decide +kernel
theorem dX2_put_27 : decode cX2_put 27 = .ok (.goto 29, 3) := by decide +kernel
theorem dX2_put_30 : decode cX2_put 30 = .ok (.aload_n 0, 1) := by decide +kernel
theorem dX2_put_31 : decode cX2_put 31 = .ok (.getfield 19, 3) := by decide +kernel
theorem dX2_put_34 : decode cX2_put 34 = .ok (.iconst 1, 1) := by decide +kernel
theorem dX2_put_35 : decode cX2_put 35 = .ok (.if_icmp .ne 14, 3) := by decide +kernel
theorem dX2_put_38 : decode cX2_put 38 = .ok (.aload_n 0, 1) := by decide +kernel
theorem dX2_put_39 : decode cX2_put 39 = .ok (.getfield 9, 3) := by decide +kernel
theorem dX2_put_42 : decode cX2_put 42 = .ok (.iload_n 1, 1) := by decide +kernel
theorem dX2_put_43 : decode cX2_put 43 = .ok (.iload_n 2, 1) := by decide +kernel
theorem dX2_put_44 : decode cX2_put 44 = .ok (.i2s, 1) := by decide +kernel
theorem dX2_put_45 : decode cX2_put 45 = .ok (.iastore, 1) := by decide +kernel
theorem dX2_put_46 : decode cX2_put 46 = .ok (.goto 10, 3) := by decide +kernel
theorem dX2_put_49 : decode cX2_put 49 = .ok (.aload_n 0, 1) := by decide +kernel
theorem dX2_put_50 : decode cX2_put 50 = .ok (.getfield 9, 3) := by decide +kernel
theorem dX2_put_53 : decode cX2_put 53 = .ok (.iload_n 1, 1) := by decide +kernel
theorem dX2_put_54 : decode cX2_put 54 = .ok (.iload_n 2, 1) := by decide +kernel
theorem dX2_put_55 : decode cX2_put 55 = .ok (.iastore, 1) := by decide +kernel
theorem dX2_put_56 : decode cX2_put 56 = .ok (.return_, 1) := by decide +kernel
theorem dX3_init_0 : decode cX3_init 0 = .ok (.aload_n 0, 1) := by decide +kernel
theorem dX3_init_1 : decode cX3_init 1 = .ok (.invokespecial 3, 3) := by decide +kernel
theorem dX3_init_4 : decode cX3_init 4 = .ok (.aload_n 0, 1) := by decide +kernel
theorem dX3_init_5 : decode cX3_init 5 = .ok (.new 9, 3) := by decide +kernel
theorem dX3_init_8 : decode cX3_init 8 = .ok (.dup, 1) := by decide +kernel
theorem dX3_init_9 : decode cX3_init 9 = .ok (.invokespecial 11, 3) := by decide +kernel
theorem dX3_init_12 : decode cX3_init 12 = .ok (.putfield 12, 3) := by decide +kernel
theorem dX3_init_15 : decode cX3_init 15 = .ok (.aload_n 0, 1) := by decide +kernel
theorem dX3_init_16 : decode cX3_init 16 = .ok (.bipush 12, 2) := by decide +kernel
theorem dX3_init_18 : decode cX3_init 18 = .ok (.newarray .int, 2) := by decide +kernel
theorem dX3_init_20 : decode cX3_init 20 = .ok (.putfield 18, 3) := by decide +kernel
theorem dX3_init_23 : decode cX3_init 23 = .ok (.aload_n 0, 1) := by decide +kernel
theorem dX3_init_24 : decode cX3_init 24 = .ok (.bipush 12, 2) := by decide +kernel
theorem dX3_init_26 : decode cX3_init 26 = .ok (.newarray .int, 2) := by decide +kernel
theorem dX3_init_28 : decode cX3_init 28 = .ok (.putfield 22, 3) := by decide +kernel
theorem dX3_init_31 : decode cX3_init 31 = .ok (.return_, 1) := by decide +kernel
theorem dX3_tell_0 : decode cX3_tell 0 = .ok (.aload_n 0, 1) := by decide +kernel
theorem dX3_tell_1 : decode cX3_tell 1 = .ok (.getfield 25, 3) := by decide +kernel
theorem dX3_tell_4 : decode cX3_tell 4 = .ok (.bipush 12, 2) := by decide +kernel
theorem dX3_tell_6 : decode cX3_tell 6 = .ok (.if_icmp .lt 5, 3) := by decide +kernel
theorem dX3_tell_9 : decode cX3_tell 9 = .ok (.iconst 0, 1) := by decide +kernel
theorem dX3_tell_10 : decode cX3_tell 10 = .ok (.ireturn, 1) := by decide +kernel
theorem dX3_tell_11 : decode cX3_tell 11 = .ok (.aload_n 0, 1) := by decide +kernel
theorem dX3_tell_12 : decode cX3_tell 12 = .ok (.getfield 18, 3) := by decide +kernel
theorem dX3_tell_15 : decode cX3_tell 15 = .ok (.aload_n 0, 1) := by decide +kernel
theorem dX3_tell_16 : decode cX3_tell 16 = .ok (.getfield 25, 3) := by decide +kernel
theorem dX3_tell_19 : decode cX3_tell 19 = .ok (.iload_n 1, 1) := by decide +kernel
theorem dX3_tell_20 : decode cX3_tell 20 = .ok (.iastore, 1) := by decide +kernel
theorem dX3_tell_21 : decode cX3_tell 21 = .ok (.aload_n 0, 1) := by decide +kernel
theorem dX3_tell_22 : decode cX3_tell 22 = .ok (.getfield 22, 3) := by decide +kernel
theorem dX3_tell_25 : decode cX3_tell 25 = .ok (.aload_n 0, 1) := by decide +kernel
theorem dX3_tell_26 : decode cX3_tell 26 = .ok (.getfield 25, 3) := by decide +kernel
theorem dX3_tell_29 : decode cX3_tell 29 = .ok (.iload_n 2, 1) := by decide +kernel
theorem dX3_tell_30 : decode cX3_tell 30 = .ok (.iastore, 1) := by decide +kernel
theorem dX3_tell_31 : decode cX3_tell 31 = .ok (.aload_n 0, 1) := by decide +kernel
theorem dX3_tell_32 : decode cX3_tell 32 = .ok (.dup, 1) := by decide +kernel
theorem dX3_tell_33 : decode cX3_tell 33 = .ok (.getfield 25, 3) := by decide +kernel
theorem dX3_tell_36 : decode cX3_tell 36 = .ok (.iconst 1, 1) := by decide +kernel
theorem dX3_tell_37 : decode cX3_tell 37 = .ok (.iadd, 1) := by decide +kernel
theorem dX3_tell_38 : decode cX3_tell 38 = .ok (.putfield 25, 3) := by decide +kernel
theorem dX3_tell_41 : decode cX3_tell 41 = .ok (.iconst 1, 1) := by decide +kernel
theorem dX3_tell_42 : decode cX3_tell 42 = .ok (.ireturn, 1) := by decide +kernel
theorem dX3_lawful_0 : decode cX3_lawful 0 = .ok (.iconst 0, 1) := by decide +kernel
theorem dX3_lawful_1 : decode cX3_lawful 1 = .ok (.istore_n 2, 1) := by decide +kernel
theorem dX3_lawful_2 : decode cX3_lawful 2 = .ok (.iconst 0, 1) := by decide +kernel
theorem dX3_lawful_3 : decode cX3_lawful 3 = .ok (.istore_n 3, 1) := by decide +kernel
theorem dX3_lawful_4 : decode cX3_lawful 4 = .ok (.iconst 0, 1) := by decide +kernel
theorem dX3_lawful_5 : decode cX3_lawful 5 = .ok (.istore 4, 2) := by decide +kernel
theorem dX3_lawful_7 : decode cX3_lawful 7 = .ok (.iload 4, 2) := by decide +kernel
theorem dX3_lawful_9 : decode cX3_lawful 9 = .ok (.aload_n 0, 1) := by decide +kernel
theorem dX3_lawful_10 : decode cX3_lawful 10 = .ok (.getfield 25, 3) := by decide +kernel
theorem dX3_lawful_13 : decode cX3_lawful 13 = .ok (.if_icmp .ge 92, 3) := by decide +kernel
theorem dX3_lawful_16 : decode cX3_lawful 16 = .ok (.aload_n 0, 1) := by decide +kernel
theorem dX3_lawful_17 : decode cX3_lawful 17 = .ok (.aload_n 0, 1) := by decide +kernel
theorem dX3_lawful_18 : decode cX3_lawful 18 = .ok (.getfield 22, 3) := by decide +kernel
theorem dX3_lawful_21 : decode cX3_lawful 21 = .ok (.iload 4, 2) := by decide +kernel
theorem dX3_lawful_23 : decode cX3_lawful 23 = .ok (.iaload, 1) := by decide +kernel
theorem dX3_lawful_24 : decode cX3_lawful 24 = .ok (.iload_n 2, 1) := by decide +kernel
theorem dX3_lawful_25 : decode cX3_lawful 25 = .ok (.invokevirtual 29, 3) := by decide +kernel
theorem dX3_lawful_28 : decode cX3_lawful 28 = .ok (.istore 5, 2) := by decide +kernel
theorem dX3_lawful_30 : decode cX3_lawful 30 = .ok (.iload 5, 2) := by decide +kernel
theorem dX3_lawful_32 : decode cX3_lawful 32 = .ok (.iconst (-1), 1) := by decide +kernel
theorem dX3_lawful_33 : decode cX3_lawful 33 = .ok (.if_icmp .eq 19, 3) := by decide +kernel
theorem dX3_lawful_36 : decode cX3_lawful 36 = .ok (.iload 5, 2) := by decide +kernel
theorem dX3_lawful_38 : decode cX3_lawful 38 = .ok (.aload_n 0, 1) := by decide +kernel
theorem dX3_lawful_39 : decode cX3_lawful 39 = .ok (.getfield 18, 3) := by decide +kernel
theorem dX3_lawful_42 : decode cX3_lawful 42 = .ok (.iload 4, 2) := by decide +kernel
theorem dX3_lawful_44 : decode cX3_lawful 44 = .ok (.iaload, 1) := by decide +kernel
theorem dX3_lawful_45 : decode cX3_lawful 45 = .ok (.if_icmp .eq 7, 3) := by decide +kernel
theorem dX3_lawful_48 : decode cX3_lawful 48 = .ok (.iconst 1, 1) := by decide +kernel
theorem dX3_lawful_49 : decode cX3_lawful 49 = .ok (.goto 4, 3) := by decide +kernel
theorem dX3_lawful_52 : decode cX3_lawful 52 = .ok (.iconst 0, 1) := by decide +kernel
theorem dX3_lawful_53 : decode cX3_lawful 53 = .ok (.istore 6, 2) := by decide +kernel
theorem dX3_lawful_55 : decode cX3_lawful 55 = .ok (.iload 4, 2) := by decide +kernel
theorem dX3_lawful_57 : decode cX3_lawful 57 = .ok (.iload_n 1, 1) := by decide +kernel
theorem dX3_lawful_58 : decode cX3_lawful 58 = .ok (.if_icmp .eq 41, 3) := by decide +kernel
theorem dX3_lawful_61 : decode cX3_lawful 61 = .ok (.iload 6, 2) := by decide +kernel
theorem dX3_lawful_63 : decode cX3_lawful 63 = .ok (.ifCond .eq 36, 3) := by decide +kernel
theorem dX3_lawful_66 : decode cX3_lawful 66 = .ok (.iload_n 3, 1) := by decide +kernel
theorem dX3_lawful_67 : decode cX3_lawful 67 = .ok (.aload_n 0, 1) := by decide +kernel
theorem dX3_lawful_68 : decode cX3_lawful 68 = .ok (.getfield 18, 3) := by decide +kernel
theorem dX3_lawful_71 : decode cX3_lawful 71 = .ok (.iload 4, 2) := by decide +kernel
theorem dX3_lawful_73 : decode cX3_lawful 73 = .ok (.iaload, 1) := by decide +kernel
theorem dX3_lawful_74 : decode cX3_lawful 74 = .ok (.invokestatic 33, 3) := by decide +kernel
theorem dX3_lawful_77 : decode cX3_lawful 77 = .ok (.ifCond .ne 22, 3) := by decide +kernel
theorem dX3_lawful_80 : decode cX3_lawful 80 = .ok (.iload_n 2, 1) := by decide +kernel
theorem dX3_lawful_81 : decode cX3_lawful 81 = .ok (.iconst 1, 1) := by decide +kernel
theorem dX3_lawful_82 : decode cX3_lawful 82 = .ok (.iload 4, 2) := by decide +kernel
theorem dX3_lawful_84 : decode cX3_lawful 84 = .ok (.ishl, 1) := by decide +kernel
theorem dX3_lawful_85 : decode cX3_lawful 85 = .ok (.ior, 1) := by decide +kernel
theorem dX3_lawful_86 : decode cX3_lawful 86 = .ok (.istore_n 2, 1) := by decide +kernel
theorem dX3_lawful_87 : decode cX3_lawful 87 = .ok (.iload_n 3, 1) := by decide +kernel
theorem dX3_lawful_88 : decode cX3_lawful 88 = .ok (.iconst 1, 1) := by decide +kernel
theorem dX3_lawful_89 : decode cX3_lawful 89 = .ok (.aload_n 0, 1) := by decide +kernel
theorem dX3_lawful_90 : decode cX3_lawful 90 = .ok (.getfield 18, 3) := by decide +kernel
theorem dX3_lawful_93 : decode cX3_lawful 93 = .ok (.iload 4, 2) := by decide +kernel
theorem dX3_lawful_95 : decode cX3_lawful 95 = .ok (.iaload, 1) := by decide +kernel
theorem dX3_lawful_96 : decode cX3_lawful 96 = .ok (.ishl, 1) := by decide +kernel
theorem dX3_lawful_97 : decode cX3_lawful 97 = .ok (.ior, 1) := by decide +kernel
theorem dX3_lawful_98 : decode cX3_lawful 98 = .ok (.istore_n 3, 1) := by decide +kernel
theorem dX3_lawful_99 : decode cX3_lawful 99 = .ok (.iinc 4 1, 3) := by decide +kernel
theorem dX3_lawful_102 : decode cX3_lawful 102 = .ok (.goto (-95), 3) := by decide +kernel
theorem dX3_lawful_105 : decode cX3_lawful 105 = .ok (.iload_n 2, 1) := by decide +kernel
theorem dX3_lawful_106 : decode cX3_lawful 106 = .ok (.ireturn, 1) := by decide +kernel
theorem dX3_lawfulOfFirst_0 : decode cX3_lawfulOfFirst 0 = .ok (.aload_n 0, 1) := by decide +kernel
theorem dX3_lawfulOfFirst_1 : decode cX3_lawfulOfFirst 1 = .ok (.iconst (-1), 1) := by decide +kernel
theorem dX3_lawfulOfFirst_2 : decode cX3_lawfulOfFirst 2 = .ok (.invokevirtual 36, 3) := by decide +kernel
theorem dX3_lawfulOfFirst_5 : decode cX3_lawfulOfFirst 5 = .ok (.iload_n 1, 1) := by decide +kernel
theorem dX3_lawfulOfFirst_6 : decode cX3_lawfulOfFirst 6 = .ok (.invokestatic 40, 3) := by decide +kernel
theorem dX3_lawfulOfFirst_9 : decode cX3_lawfulOfFirst 9 = .ok (.iand, 1) := by decide +kernel
theorem dX3_lawfulOfFirst_10 : decode cX3_lawfulOfFirst 10 = .ok (.ireturn, 1) := by decide +kernel
theorem dX3_ownerOf_0 : decode cX3_ownerOf 0 = .ok (.iload_n 1, 1) := by decide +kernel
theorem dX3_ownerOf_1 : decode cX3_ownerOf 1 = .ok (.bipush 12, 2) := by decide +kernel
theorem dX3_ownerOf_3 : decode cX3_ownerOf 3 = .ok (.if_icmp .ge 32, 3) := by decide +kernel
theorem dX3_ownerOf_6 : decode cX3_ownerOf 6 = .ok (.iload_n 1, 1) := by decide +kernel
theorem dX3_ownerOf_7 : decode cX3_ownerOf 7 = .ok (.ifCond .lt 26, 3) := by decide +kernel
theorem dX3_ownerOf_10 : decode cX3_ownerOf 10 = .ok (.iload_n 1, 1) := by decide +kernel
theorem dX3_ownerOf_11 : decode cX3_ownerOf 11 = .ok (.aload_n 0, 1) := by decide +kernel
theorem dX3_ownerOf_12 : decode cX3_ownerOf 12 = .ok (.getfield 12, 3) := by decide +kernel
theorem dX3_ownerOf_15 : decode cX3_ownerOf 15 = .ok (.getfield 43, 3) := by decide +kernel
theorem dX3_ownerOf_18 : decode cX3_ownerOf 18 = .ok (.if_icmp .ge 15, 3) := by decide +kernel
theorem dX3_ownerOf_21 : decode cX3_ownerOf 21 = .ok (.aload_n 0, 1) := by decide +kernel
theorem dX3_ownerOf_22 : decode cX3_ownerOf 22 = .ok (.getfield 12, 3) := by decide +kernel
theorem dX3_ownerOf_25 : decode cX3_ownerOf 25 = .ok (.getfield 44, 3) := by decide +kernel
theorem dX3_ownerOf_28 : decode cX3_ownerOf 28 = .ok (.iload_n 1, 1) := by decide +kernel
theorem dX3_ownerOf_29 : decode cX3_ownerOf 29 = .ok (.iaload, 1) := by decide +kernel
theorem dX3_ownerOf_30 : decode cX3_ownerOf 30 = .ok (.goto 4, 3) := by decide +kernel
theorem dX3_ownerOf_33 : decode cX3_ownerOf 33 = .ok (.iconst (-1), 1) := by decide +kernel
theorem dX3_ownerOf_34 : decode cX3_ownerOf 34 = .ok (.ireturn, 1) := by decide +kernel
theorem dX3_ownerOf_35 : decode cX3_ownerOf 35 = .ok (.iload_n 1, 1) := by decide +kernel
theorem dX3_ownerOf_36 : decode cX3_ownerOf 36 = .ok (.bipush 12, 2) := by decide +kernel
theorem dX3_ownerOf_38 : decode cX3_ownerOf 38 = .ok (.isub, 1) := by decide +kernel
theorem dX3_ownerOf_39 : decode cX3_ownerOf 39 = .ok (.istore_n 3, 1) := by decide +kernel
theorem dX3_ownerOf_40 : decode cX3_ownerOf 40 = .ok (.iload_n 3, 1) := by decide +kernel
theorem dX3_ownerOf_41 : decode cX3_ownerOf 41 = .ok (.aload_n 0, 1) := by decide +kernel
theorem dX3_ownerOf_42 : decode cX3_ownerOf 42 = .ok (.getfield 25, 3) := by decide +kernel
theorem dX3_ownerOf_45 : decode cX3_ownerOf 45 = .ok (.if_icmp .ge 16, 3) := by decide +kernel
theorem dX3_ownerOf_48 : decode cX3_ownerOf 48 = .ok (.iload_n 2, 1) := by decide +kernel
theorem dX3_ownerOf_49 : decode cX3_ownerOf 49 = .ok (.iload_n 3, 1) := by decide +kernel
theorem dX3_ownerOf_50 : decode cX3_ownerOf 50 = .ok (.ishr, 1) := by decide +kernel
theorem dX3_ownerOf_51 : decode cX3_ownerOf 51 = .ok (.iconst 1, 1) := by decide +kernel
theorem dX3_ownerOf_52 : decode cX3_ownerOf 52 = .ok (.iand, 1) := by decide +kernel
theorem dX3_ownerOf_53 : decode cX3_ownerOf 53 = .ok (.iconst 1, 1) := by decide +kernel
theorem dX3_ownerOf_54 : decode cX3_ownerOf 54 = .ok (.if_icmp .ne 7, 3) := by decide +kernel
theorem dX3_ownerOf_57 : decode cX3_ownerOf 57 = .ok (.iconst 1, 1) := by decide +kernel
theorem dX3_ownerOf_58 : decode cX3_ownerOf 58 = .ok (.goto 4, 3) := by decide +kernel
theorem dX3_ownerOf_61 : decode cX3_ownerOf 61 = .ok (.iconst 0, 1) := by decide +kernel
theorem dX3_ownerOf_62 : decode cX3_ownerOf 62 = .ok (.istore 4, 2) := by decide +kernel
theorem dX3_ownerOf_64 : decode cX3_ownerOf 64 = .ok (.iload 4, 2) := by decide +kernel
theorem dX3_ownerOf_66 : decode cX3_ownerOf 66 = .ok (.ifCond .eq 12, 3) := by decide +kernel
theorem dX3_ownerOf_69 : decode cX3_ownerOf 69 = .ok (.aload_n 0, 1) := by decide +kernel
theorem dX3_ownerOf_70 : decode cX3_ownerOf 70 = .ok (.getfield 18, 3) := by decide +kernel
theorem dX3_ownerOf_73 : decode cX3_ownerOf 73 = .ok (.iload_n 3, 1) := by decide +kernel
theorem dX3_ownerOf_74 : decode cX3_ownerOf 74 = .ok (.iaload, 1) := by decide +kernel
theorem dX3_ownerOf_75 : decode cX3_ownerOf 75 = .ok (.goto 4, 3) := by decide +kernel
theorem dX3_ownerOf_78 : decode cX3_ownerOf 78 = .ok (.iconst (-1), 1) := by decide +kernel
theorem dX3_ownerOf_79 : decode cX3_ownerOf 79 = .ok (.ireturn, 1) := by decide +kernel
theorem dX3_unspent_0 : decode cX3_unspent 0 = .ok (.bipush 63, 2) := by decide +kernel
theorem dX3_unspent_2 : decode cX3_unspent 2 = .ok (.istore_n 2, 1) := by decide +kernel
theorem dX3_unspent_3 : decode cX3_unspent 3 = .ok (.iconst 0, 1) := by decide +kernel
theorem dX3_unspent_4 : decode cX3_unspent 4 = .ok (.istore_n 3, 1) := by decide +kernel
theorem dX3_unspent_5 : decode cX3_unspent 5 = .ok (.iload_n 3, 1) := by decide +kernel
theorem dX3_unspent_6 : decode cX3_unspent 6 = .ok (.aload_n 0, 1) := by decide +kernel
theorem dX3_unspent_7 : decode cX3_unspent 7 = .ok (.getfield 25, 3) := by decide +kernel
theorem dX3_unspent_10 : decode cX3_unspent 10 = .ok (.if_icmp .ge 31, 3) := by decide +kernel
theorem dX3_unspent_13 : decode cX3_unspent 13 = .ok (.iload_n 1, 1) := by decide +kernel
theorem dX3_unspent_14 : decode cX3_unspent 14 = .ok (.iload_n 3, 1) := by decide +kernel
theorem dX3_unspent_15 : decode cX3_unspent 15 = .ok (.invokestatic 33, 3) := by decide +kernel
theorem dX3_unspent_18 : decode cX3_unspent 18 = .ok (.iconst 1, 1) := by decide +kernel
theorem dX3_unspent_19 : decode cX3_unspent 19 = .ok (.if_icmp .ne 16, 3) := by decide +kernel
theorem dX3_unspent_22 : decode cX3_unspent 22 = .ok (.iload_n 2, 1) := by decide +kernel
theorem dX3_unspent_23 : decode cX3_unspent 23 = .ok (.iconst 1, 1) := by decide +kernel
theorem dX3_unspent_24 : decode cX3_unspent 24 = .ok (.aload_n 0, 1) := by decide +kernel
theorem dX3_unspent_25 : decode cX3_unspent 25 = .ok (.getfield 18, 3) := by decide +kernel
theorem dX3_unspent_28 : decode cX3_unspent 28 = .ok (.iload_n 3, 1) := by decide +kernel
theorem dX3_unspent_29 : decode cX3_unspent 29 = .ok (.iaload, 1) := by decide +kernel
theorem dX3_unspent_30 : decode cX3_unspent 30 = .ok (.ishl, 1) := by decide +kernel
theorem dX3_unspent_31 : decode cX3_unspent 31 = .ok (.iconst (-1), 1) := by decide +kernel
theorem dX3_unspent_32 : decode cX3_unspent 32 = .ok (.ixor, 1) := by decide +kernel
theorem dX3_unspent_33 : decode cX3_unspent 33 = .ok (.iand, 1) := by decide +kernel
theorem dX3_unspent_34 : decode cX3_unspent 34 = .ok (.istore_n 2, 1) := by decide +kernel
theorem dX3_unspent_35 : decode cX3_unspent 35 = .ok (.iinc 3 1, 3) := by decide +kernel
theorem dX3_unspent_38 : decode cX3_unspent 38 = .ok (.goto (-33), 3) := by decide +kernel
theorem dX3_unspent_41 : decode cX3_unspent 41 = .ok (.iload_n 2, 1) := by decide +kernel
theorem dX3_unspent_42 : decode cX3_unspent 42 = .ok (.ireturn, 1) := by decide +kernel
theorem dX3_holding_0 : decode cX3_holding 0 = .ok (.iconst 0, 1) := by decide +kernel
theorem dX3_holding_1 : decode cX3_holding 1 = .ok (.istore_n 2, 1) := by decide +kernel
theorem dX3_holding_2 : decode cX3_holding 2 = .ok (.iconst 0, 1) := by decide +kernel
theorem dX3_holding_3 : decode cX3_holding 3 = .ok (.istore_n 3, 1) := by decide +kernel
theorem dX3_holding_4 : decode cX3_holding 4 = .ok (.bipush 11, 2) := by decide +kernel
theorem dX3_holding_6 : decode cX3_holding 6 = .ok (.istore 4, 2) := by decide +kernel
theorem dX3_holding_8 : decode cX3_holding 8 = .ok (.iload 4, 2) := by decide +kernel
theorem dX3_holding_10 : decode cX3_holding 10 = .ok (.ifCond .lt 57, 3) := by decide +kernel
theorem dX3_holding_13 : decode cX3_holding 13 = .ok (.iload_n 1, 1) := by decide +kernel
theorem dX3_holding_14 : decode cX3_holding 14 = .ok (.iload_n 3, 1) := by decide +kernel
theorem dX3_holding_15 : decode cX3_holding 15 = .ok (.iconst (-1), 1) := by decide +kernel
theorem dX3_holding_16 : decode cX3_holding 16 = .ok (.ixor, 1) := by decide +kernel
theorem dX3_holding_17 : decode cX3_holding 17 = .ok (.iand, 1) := by decide +kernel
theorem dX3_holding_18 : decode cX3_holding 18 = .ok (.iload 4, 2) := by decide +kernel
theorem dX3_holding_20 : decode cX3_holding 20 = .ok (.ishr, 1) := by decide +kernel
theorem dX3_holding_21 : decode cX3_holding 21 = .ok (.iconst 1, 1) := by decide +kernel
theorem dX3_holding_22 : decode cX3_holding 22 = .ok (.iand, 1) := by decide +kernel
theorem dX3_holding_23 : decode cX3_holding 23 = .ok (.iconst 1, 1) := by decide +kernel
theorem dX3_holding_24 : decode cX3_holding 24 = .ok (.if_icmp .ne 37, 3) := by decide +kernel
theorem dX3_holding_27 : decode cX3_holding 27 = .ok (.iload_n 2, 1) := by decide +kernel
theorem dX3_holding_28 : decode cX3_holding 28 = .ok (.iconst 1, 1) := by decide +kernel
theorem dX3_holding_29 : decode cX3_holding 29 = .ok (.iload 4, 2) := by decide +kernel
theorem dX3_holding_31 : decode cX3_holding 31 = .ok (.ishl, 1) := by decide +kernel
theorem dX3_holding_32 : decode cX3_holding 32 = .ok (.ior, 1) := by decide +kernel
theorem dX3_holding_33 : decode cX3_holding 33 = .ok (.istore_n 2, 1) := by decide +kernel
theorem dX3_holding_34 : decode cX3_holding 34 = .ok (.aload_n 0, 1) := by decide +kernel
theorem dX3_holding_35 : decode cX3_holding 35 = .ok (.getfield 22, 3) := by decide +kernel
theorem dX3_holding_38 : decode cX3_holding 38 = .ok (.iload 4, 2) := by decide +kernel
theorem dX3_holding_40 : decode cX3_holding 40 = .ok (.iaload, 1) := by decide +kernel
theorem dX3_holding_41 : decode cX3_holding 41 = .ok (.bipush 12, 2) := by decide +kernel
theorem dX3_holding_43 : decode cX3_holding 43 = .ok (.if_icmp .lt 18, 3) := by decide +kernel
theorem dX3_holding_46 : decode cX3_holding 46 = .ok (.iload_n 3, 1) := by decide +kernel
theorem dX3_holding_47 : decode cX3_holding 47 = .ok (.iconst 1, 1) := by decide +kernel
theorem dX3_holding_48 : decode cX3_holding 48 = .ok (.aload_n 0, 1) := by decide +kernel
theorem dX3_holding_49 : decode cX3_holding 49 = .ok (.getfield 22, 3) := by decide +kernel
theorem dX3_holding_52 : decode cX3_holding 52 = .ok (.iload 4, 2) := by decide +kernel
theorem dX3_holding_54 : decode cX3_holding 54 = .ok (.iaload, 1) := by decide +kernel
theorem dX3_holding_55 : decode cX3_holding 55 = .ok (.bipush 12, 2) := by decide +kernel
theorem dX3_holding_57 : decode cX3_holding 57 = .ok (.isub, 1) := by decide +kernel
theorem dX3_holding_58 : decode cX3_holding 58 = .ok (.ishl, 1) := by decide +kernel
theorem dX3_holding_59 : decode cX3_holding 59 = .ok (.ior, 1) := by decide +kernel
theorem dX3_holding_60 : decode cX3_holding 60 = .ok (.istore_n 3, 1) := by decide +kernel
theorem dX3_holding_61 : decode cX3_holding 61 = .ok (.iinc 4 (-1), 3) := by decide +kernel
theorem dX3_holding_64 : decode cX3_holding 64 = .ok (.goto (-56), 3) := by decide +kernel
theorem dX3_holding_67 : decode cX3_holding 67 = .ok (.iload_n 2, 1) := by decide +kernel
theorem dX3_holding_68 : decode cX3_holding 68 = .ok (.ireturn, 1) := by decide +kernel
theorem dX3_undone_0 : decode cX3_undone 0 = .ok (.aload_n 0, 1) := by decide +kernel
theorem dX3_undone_1 : decode cX3_undone 1 = .ok (.iload_n 1, 1) := by decide +kernel
theorem dX3_undone_2 : decode cX3_undone 2 = .ok (.invokevirtual 47, 3) := by decide +kernel
theorem dX3_undone_5 : decode cX3_undone 5 = .ok (.istore_n 2, 1) := by decide +kernel
theorem dX3_undone_6 : decode cX3_undone 6 = .ok (.iconst 0, 1) := by decide +kernel
theorem dX3_undone_7 : decode cX3_undone 7 = .ok (.istore_n 3, 1) := by decide +kernel
theorem dX3_undone_8 : decode cX3_undone 8 = .ok (.iconst 0, 1) := by decide +kernel
theorem dX3_undone_9 : decode cX3_undone 9 = .ok (.istore 4, 2) := by decide +kernel
theorem dX3_undone_11 : decode cX3_undone 11 = .ok (.iload 4, 2) := by decide +kernel
theorem dX3_undone_13 : decode cX3_undone 13 = .ok (.bipush 12, 2) := by decide +kernel
theorem dX3_undone_15 : decode cX3_undone 15 = .ok (.if_icmp .ge 43, 3) := by decide +kernel
theorem dX3_undone_18 : decode cX3_undone 18 = .ok (.iload_n 2, 1) := by decide +kernel
theorem dX3_undone_19 : decode cX3_undone 19 = .ok (.iload 4, 2) := by decide +kernel
theorem dX3_undone_21 : decode cX3_undone 21 = .ok (.invokestatic 33, 3) := by decide +kernel
theorem dX3_undone_24 : decode cX3_undone 24 = .ok (.iconst 1, 1) := by decide +kernel
theorem dX3_undone_25 : decode cX3_undone 25 = .ok (.if_icmp .ne 27, 3) := by decide +kernel
theorem dX3_undone_28 : decode cX3_undone 28 = .ok (.aload_n 0, 1) := by decide +kernel
theorem dX3_undone_29 : decode cX3_undone 29 = .ok (.getfield 22, 3) := by decide +kernel
theorem dX3_undone_32 : decode cX3_undone 32 = .ok (.iload 4, 2) := by decide +kernel
theorem dX3_undone_34 : decode cX3_undone 34 = .ok (.iaload, 1) := by decide +kernel
theorem dX3_undone_35 : decode cX3_undone 35 = .ok (.bipush 12, 2) := by decide +kernel
theorem dX3_undone_37 : decode cX3_undone 37 = .ok (.if_icmp .ge 15, 3) := by decide +kernel
theorem dX3_undone_40 : decode cX3_undone 40 = .ok (.iload_n 3, 1) := by decide +kernel
theorem dX3_undone_41 : decode cX3_undone 41 = .ok (.iconst 1, 1) := by decide +kernel
theorem dX3_undone_42 : decode cX3_undone 42 = .ok (.aload_n 0, 1) := by decide +kernel
theorem dX3_undone_43 : decode cX3_undone 43 = .ok (.getfield 22, 3) := by decide +kernel
theorem dX3_undone_46 : decode cX3_undone 46 = .ok (.iload 4, 2) := by decide +kernel
theorem dX3_undone_48 : decode cX3_undone 48 = .ok (.iaload, 1) := by decide +kernel
theorem dX3_undone_49 : decode cX3_undone 49 = .ok (.ishl, 1) := by decide +kernel
theorem dX3_undone_50 : decode cX3_undone 50 = .ok (.ior, 1) := by decide +kernel
theorem dX3_undone_51 : decode cX3_undone 51 = .ok (.istore_n 3, 1) := by decide +kernel
theorem dX3_undone_52 : decode cX3_undone 52 = .ok (.iinc 4 1, 3) := by decide +kernel
theorem dX3_undone_55 : decode cX3_undone 55 = .ok (.goto (-44), 3) := by decide +kernel
theorem dX3_undone_58 : decode cX3_undone 58 = .ok (.iload_n 3, 1) := by decide +kernel
theorem dX3_undone_59 : decode cX3_undone 59 = .ok (.ireturn, 1) := by decide +kernel
theorem dX3_standing_0 : decode cX3_standing 0 = .ok (.aload_n 0, 1) := by decide +kernel
theorem dX3_standing_1 : decode cX3_standing 1 = .ok (.getfield 12, 3) := by decide +kernel
theorem dX3_standing_4 : decode cX3_standing 4 = .ok (.aload_n 0, 1) := by decide +kernel
theorem dX3_standing_5 : decode cX3_standing 5 = .ok (.iload_n 1, 1) := by decide +kernel
theorem dX3_standing_6 : decode cX3_standing 6 = .ok (.invokevirtual 50, 3) := by decide +kernel
theorem dX3_standing_9 : decode cX3_standing 9 = .ok (.invokevirtual 53, 3) := by decide +kernel
theorem dX3_standing_12 : decode cX3_standing 12 = .ok (.ireturn, 1) := by decide +kernel
theorem dX4_init_0 : decode cX4_init 0 = .ok (.aload_n 0, 1) := by decide +kernel
theorem dX4_init_1 : decode cX4_init 1 = .ok (.invokespecial 3, 3) := by decide +kernel
theorem dX4_init_4 : decode cX4_init 4 = .ok (.aload_n 0, 1) := by decide +kernel
theorem dX4_init_5 : decode cX4_init 5 = .ok (.new 9, 3) := by decide +kernel
theorem dX4_init_8 : decode cX4_init 8 = .ok (.dup, 1) := by decide +kernel
theorem dX4_init_9 : decode cX4_init 9 = .ok (.invokespecial 11, 3) := by decide +kernel
theorem dX4_init_12 : decode cX4_init 12 = .ok (.putfield 12, 3) := by decide +kernel
theorem dX4_init_15 : decode cX4_init 15 = .ok (.aload_n 0, 1) := by decide +kernel
theorem dX4_init_16 : decode cX4_init 16 = .ok (.aload_n 0, 1) := by decide +kernel
theorem dX4_init_17 : decode cX4_init 17 = .ok (.getfield 12, 3) := by decide +kernel
theorem dX4_init_20 : decode cX4_init 20 = .ok (.getfield 16, 3) := by decide +kernel
theorem dX4_init_23 : decode cX4_init 23 = .ok (.putfield 20, 3) := by decide +kernel
theorem dX4_init_26 : decode cX4_init 26 = .ok (.aload_n 0, 1) := by decide +kernel
theorem dX4_init_27 : decode cX4_init 27 = .ok (.aload_n 0, 1) := by decide +kernel
theorem dX4_init_28 : decode cX4_init 28 = .ok (.getfield 20, 3) := by decide +kernel
theorem dX4_init_31 : decode cX4_init 31 = .ok (.getfield 21, 3) := by decide +kernel
theorem dX4_init_34 : decode cX4_init 34 = .ok (.putfield 27, 3) := by decide +kernel
theorem dX4_init_37 : decode cX4_init 37 = .ok (.aload_n 0, 1) := by decide +kernel
theorem dX4_init_38 : decode cX4_init 38 = .ok (.iconst 4, 1) := by decide +kernel
theorem dX4_init_39 : decode cX4_init 39 = .ok (.anewarray 28, 3) := by decide +kernel
theorem dX4_init_42 : decode cX4_init 42 = .ok (.putfield 30, 3) := by decide +kernel
theorem dX4_init_45 : decode cX4_init 45 = .ok (.aload_n 0, 1) := by decide +kernel
theorem dX4_init_46 : decode cX4_init 46 = .ok (.iconst 0, 1) := by decide +kernel
theorem dX4_init_47 : decode cX4_init 47 = .ok (.putfield 34, 3) := by decide +kernel
theorem dX4_init_50 : decode cX4_init 50 = .ok (.iconst 0, 1) := by decide +kernel
theorem dX4_init_51 : decode cX4_init 51 = .ok (.istore_n 1, 1) := by decide +kernel
theorem dX4_init_52 : decode cX4_init 52 = .ok (.iload_n 1, 1) := by decide +kernel
theorem dX4_init_53 : decode cX4_init 53 = .ok (.iconst 4, 1) := by decide +kernel
theorem dX4_init_54 : decode cX4_init 54 = .ok (.if_icmp .ge 22, 3) := by decide +kernel
theorem dX4_init_57 : decode cX4_init 57 = .ok (.aload_n 0, 1) := by decide +kernel
theorem dX4_init_58 : decode cX4_init 58 = .ok (.getfield 30, 3) := by decide +kernel
theorem dX4_init_61 : decode cX4_init 61 = .ok (.iload_n 1, 1) := by decide +kernel
theorem dX4_init_62 : decode cX4_init 62 = .ok (.new 28, 3) := by decide +kernel
theorem dX4_init_65 : decode cX4_init 65 = .ok (.dup, 1) := by decide +kernel
theorem dX4_init_66 : decode cX4_init 66 = .ok (.invokespecial 38, 3) := by decide +kernel
theorem dX4_init_69 : decode cX4_init 69 = .ok (.aastore, 1) := by decide +kernel
theorem dX4_init_70 : decode cX4_init 70 = .ok (.iinc 1 1, 3) := by decide +kernel
theorem dX4_init_73 : decode cX4_init 73 = .ok (.goto (-21), 3) := by decide +kernel
theorem dX4_init_76 : decode cX4_init 76 = .ok (.return_, 1) := by decide +kernel
theorem dX4_type_0 : decode cX4_type 0 = .ok (.iload_n 1, 1) := by decide +kernel
theorem dX4_type_1 : decode cX4_type 1 = .ok (.sipush 256, 3) := by decide +kernel
theorem dX4_type_4 : decode cX4_type 4 = .ok (.invokestatic 39, 3) := by decide +kernel
theorem dX4_type_7 : decode cX4_type 7 = .ok (.ifCond .ne 6, 3) := by decide +kernel
theorem dX4_type_10 : decode cX4_type 10 = .ok (.bipush (-2), 2) := by decide +kernel
theorem dX4_type_12 : decode cX4_type 12 = .ok (.ireturn, 1) := by decide +kernel
theorem dX4_type_13 : decode cX4_type 13 = .ok (.aload_n 0, 1) := by decide +kernel
theorem dX4_type_14 : decode cX4_type 14 = .ok (.getfield 27, 3) := by decide +kernel
theorem dX4_type_17 : decode cX4_type 17 = .ok (.getfield 43, 3) := by decide +kernel
theorem dX4_type_20 : decode cX4_type 20 = .ok (.bipush 60, 2) := by decide +kernel
theorem dX4_type_22 : decode cX4_type 22 = .ok (.if_icmp .lt 6, 3) := by decide +kernel
theorem dX4_type_25 : decode cX4_type 25 = .ok (.bipush (-4), 2) := by decide +kernel
theorem dX4_type_27 : decode cX4_type 27 = .ok (.ireturn, 1) := by decide +kernel
theorem dX4_type_28 : decode cX4_type 28 = .ok (.aload_n 0, 1) := by decide +kernel
theorem dX4_type_29 : decode cX4_type 29 = .ok (.getfield 27, 3) := by decide +kernel
theorem dX4_type_32 : decode cX4_type 32 = .ok (.iload_n 1, 1) := by decide +kernel
theorem dX4_type_33 : decode cX4_type 33 = .ok (.invokevirtual 48, 3) := by decide +kernel
theorem dX4_type_36 : decode cX4_type 36 = .ok (.ireturn, 1) := by decide +kernel
theorem dX4_wipe_0 : decode cX4_wipe 0 = .ok (.aload_n 0, 1) := by decide +kernel
theorem dX4_wipe_1 : decode cX4_wipe 1 = .ok (.getfield 27, 3) := by decide +kernel
theorem dX4_wipe_4 : decode cX4_wipe 4 = .ok (.invokevirtual 52, 3) := by decide +kernel
theorem dX4_wipe_7 : decode cX4_wipe 7 = .ok (.ireturn, 1) := by decide +kernel
theorem dX4_fault_0 : decode cX4_fault 0 = .ok (.aload_n 0, 1) := by decide +kernel
theorem dX4_fault_1 : decode cX4_fault 1 = .ok (.getfield 27, 3) := by decide +kernel
theorem dX4_fault_4 : decode cX4_fault 4 = .ok (.getfield 56, 3) := by decide +kernel
theorem dX4_fault_7 : decode cX4_fault 7 = .ok (.ireturn, 1) := by decide +kernel
theorem dX4_deed_0 : decode cX4_deed 0 = .ok (.iload_n 1, 1) := by decide +kernel
theorem dX4_deed_1 : decode cX4_deed 1 = .ok (.aload_n 0, 1) := by decide +kernel
theorem dX4_deed_2 : decode cX4_deed 2 = .ok (.getfield 27, 3) := by decide +kernel
theorem dX4_deed_5 : decode cX4_deed 5 = .ok (.getfield 59, 3) := by decide +kernel
theorem dX4_deed_8 : decode cX4_deed 8 = .ok (.invokestatic 39, 3) := by decide +kernel
theorem dX4_deed_11 : decode cX4_deed 11 = .ok (.ifCond .eq 11, 3) := by decide +kernel
theorem dX4_deed_14 : decode cX4_deed 14 = .ok (.iload_n 2, 1) := by decide +kernel
theorem dX4_deed_15 : decode cX4_deed 15 = .ok (.iconst 3, 1) := by decide +kernel
theorem dX4_deed_16 : decode cX4_deed 16 = .ok (.invokestatic 39, 3) := by decide +kernel
theorem dX4_deed_19 : decode cX4_deed 19 = .ok (.ifCond .ne 6, 3) := by decide +kernel
theorem dX4_deed_22 : decode cX4_deed 22 = .ok (.bipush (-2), 2) := by decide +kernel
theorem dX4_deed_24 : decode cX4_deed 24 = .ok (.ireturn, 1) := by decide +kernel
theorem dX4_deed_25 : decode cX4_deed 25 = .ok (.iload_n 2, 1) := by decide +kernel
theorem dX4_deed_26 : decode cX4_deed 26 = .ok (.ifCond .ne 13, 3) := by decide +kernel
theorem dX4_deed_29 : decode cX4_deed 29 = .ok (.aload_n 0, 1) := by decide +kernel
theorem dX4_deed_30 : decode cX4_deed 30 = .ok (.getfield 27, 3) := by decide +kernel
theorem dX4_deed_33 : decode cX4_deed 33 = .ok (.getfield 62, 3) := by decide +kernel
theorem dX4_deed_36 : decode cX4_deed 36 = .ok (.iload_n 1, 1) := by decide +kernel
theorem dX4_deed_37 : decode cX4_deed 37 = .ok (.iaload, 1) := by decide +kernel
theorem dX4_deed_38 : decode cX4_deed 38 = .ok (.ireturn, 1) := by decide +kernel
theorem dX4_deed_39 : decode cX4_deed 39 = .ok (.iload_n 2, 1) := by decide +kernel
theorem dX4_deed_40 : decode cX4_deed 40 = .ok (.iconst 1, 1) := by decide +kernel
theorem dX4_deed_41 : decode cX4_deed 41 = .ok (.if_icmp .ne 15, 3) := by decide +kernel
theorem dX4_deed_44 : decode cX4_deed 44 = .ok (.aload_n 0, 1) := by decide +kernel
theorem dX4_deed_45 : decode cX4_deed 45 = .ok (.getfield 27, 3) := by decide +kernel
theorem dX4_deed_48 : decode cX4_deed 48 = .ok (.getfield 66, 3) := by decide +kernel
theorem dX4_deed_51 : decode cX4_deed 51 = .ok (.iload_n 1, 1) := by decide +kernel
theorem dX4_deed_52 : decode cX4_deed 52 = .ok (.iaload, 1) := by decide +kernel
theorem dX4_deed_53 : decode cX4_deed 53 = .ok (.goto 14, 3) := by decide +kernel
theorem dX4_deed_56 : decode cX4_deed 56 = .ok (.aload_n 0, 1) := by decide +kernel
theorem dX4_deed_57 : decode cX4_deed 57 = .ok (.getfield 27, 3) := by decide +kernel
theorem dX4_deed_60 : decode cX4_deed 60 = .ok (.getfield 69, 3) := by decide +kernel
theorem dX4_deed_63 : decode cX4_deed 63 = .ok (.iload_n 1, 1) := by decide +kernel
theorem dX4_deed_64 : decode cX4_deed 64 = .ok (.invokestatic 72, 3) := by decide +kernel
theorem dX4_deed_67 : decode cX4_deed 67 = .ok (.ireturn, 1) := by decide +kernel
theorem dX4_undoes_0 : decode cX4_undoes 0 = .ok (.iload_n 1, 1) := by decide +kernel
theorem dX4_undoes_1 : decode cX4_undoes 1 = .ok (.bipush 6, 2) := by decide +kernel
theorem dX4_undoes_3 : decode cX4_undoes 3 = .ok (.invokestatic 39, 3) := by decide +kernel
theorem dX4_undoes_6 : decode cX4_undoes 6 = .ok (.ifCond .eq 12, 3) := by decide +kernel
theorem dX4_undoes_9 : decode cX4_undoes 9 = .ok (.iload_n 2, 1) := by decide +kernel
theorem dX4_undoes_10 : decode cX4_undoes 10 = .ok (.bipush 24, 2) := by decide +kernel
theorem dX4_undoes_12 : decode cX4_undoes 12 = .ok (.invokestatic 39, 3) := by decide +kernel
theorem dX4_undoes_15 : decode cX4_undoes 15 = .ok (.ifCond .ne 6, 3) := by decide +kernel
theorem dX4_undoes_18 : decode cX4_undoes 18 = .ok (.bipush (-2), 2) := by decide +kernel
theorem dX4_undoes_20 : decode cX4_undoes 20 = .ok (.ireturn, 1) := by decide +kernel
theorem dX4_undoes_21 : decode cX4_undoes 21 = .ok (.aload_n 0, 1) := by decide +kernel
theorem dX4_undoes_22 : decode cX4_undoes 22 = .ok (.getfield 20, 3) := by decide +kernel
theorem dX4_undoes_25 : decode cX4_undoes 25 = .ok (.iload_n 1, 1) := by decide +kernel
theorem dX4_undoes_26 : decode cX4_undoes 26 = .ok (.iload_n 2, 1) := by decide +kernel
theorem dX4_undoes_27 : decode cX4_undoes 27 = .ok (.invokevirtual 76, 3) := by decide +kernel
theorem dX4_undoes_30 : decode cX4_undoes 30 = .ok (.ifCond .eq 13, 3) := by decide +kernel
theorem dX4_undoes_33 : decode cX4_undoes 33 = .ok (.aload_n 0, 1) := by decide +kernel
theorem dX4_undoes_34 : decode cX4_undoes 34 = .ok (.getfield 20, 3) := by decide +kernel
theorem dX4_undoes_37 : decode cX4_undoes 37 = .ok (.getfield 79, 3) := by decide +kernel
theorem dX4_undoes_40 : decode cX4_undoes 40 = .ok (.goto 5, 3) := by decide +kernel
theorem dX4_undoes_43 : decode cX4_undoes 43 = .ok (.bipush (-4), 2) := by decide +kernel
theorem dX4_undoes_45 : decode cX4_undoes 45 = .ok (.ireturn, 1) := by decide +kernel
theorem dX4_read_0 : decode cX4_read 0 = .ok (.iload_n 1, 1) := by decide +kernel
theorem dX4_read_1 : decode cX4_read 1 = .ok (.iconst 4, 1) := by decide +kernel
theorem dX4_read_2 : decode cX4_read 2 = .ok (.invokestatic 39, 3) := by decide +kernel
theorem dX4_read_5 : decode cX4_read 5 = .ok (.ifCond .ne 6, 3) := by decide +kernel
theorem dX4_read_8 : decode cX4_read 8 = .ok (.bipush (-2), 2) := by decide +kernel
theorem dX4_read_10 : decode cX4_read 10 = .ok (.ireturn, 1) := by decide +kernel
theorem dX4_read_11 : decode cX4_read 11 = .ok (.aload_n 0, 1) := by decide +kernel
theorem dX4_read_12 : decode cX4_read 12 = .ok (.getfield 30, 3) := by decide +kernel
theorem dX4_read_15 : decode cX4_read 15 = .ok (.iload_n 1, 1) := by decide +kernel
theorem dX4_read_16 : decode cX4_read 16 = .ok (.aaload, 1) := by decide +kernel
theorem dX4_read_17 : decode cX4_read 17 = .ok (.astore_n 2, 1) := by decide +kernel
theorem dX4_read_18 : decode cX4_read 18 = .ok (.aload_n 2, 1) := by decide +kernel
theorem dX4_read_19 : decode cX4_read 19 = .ok (.getfield 80, 3) := by decide +kernel
theorem dX4_read_22 : decode cX4_read 22 = .ok (.ifCond .eq 9, 3) := by decide +kernel
theorem dX4_read_25 : decode cX4_read 25 = .ok (.aload_n 0, 1) := by decide +kernel
theorem dX4_read_26 : decode cX4_read 26 = .ok (.iconst 1, 1) := by decide +kernel
theorem dX4_read_27 : decode cX4_read 27 = .ok (.invokevirtual 84, 3) := by decide +kernel
theorem dX4_read_30 : decode cX4_read 30 = .ok (.ireturn, 1) := by decide +kernel
theorem dX4_read_31 : decode cX4_read 31 = .ok (.iconst 0, 1) := by decide +kernel
theorem dX4_read_32 : decode cX4_read 32 = .ok (.istore_n 3, 1) := by decide +kernel
theorem dX4_read_33 : decode cX4_read 33 = .ok (.iload_n 3, 1) := by decide +kernel
theorem dX4_read_34 : decode cX4_read 34 = .ok (.bipush 12, 2) := by decide +kernel
theorem dX4_read_36 : decode cX4_read 36 = .ok (.if_icmp .ge 80, 3) := by decide +kernel
theorem dX4_read_39 : decode cX4_read 39 = .ok (.iconst 2, 1) := by decide +kernel
theorem dX4_read_40 : decode cX4_read 40 = .ok (.iload_n 3, 1) := by decide +kernel
theorem dX4_read_41 : decode cX4_read 41 = .ok (.imul, 1) := by decide +kernel
theorem dX4_read_42 : decode cX4_read 42 = .ok (.iconst 1, 1) := by decide +kernel
theorem dX4_read_43 : decode cX4_read 43 = .ok (.iadd, 1) := by decide +kernel
theorem dX4_read_44 : decode cX4_read 44 = .ok (.aload_n 2, 1) := by decide +kernel
theorem dX4_read_45 : decode cX4_read 45 = .ok (.getfield 87, 3) := by decide +kernel
theorem dX4_read_48 : decode cX4_read 48 = .ok (.if_icmp .ge 68, 3) := by decide +kernel
theorem dX4_read_51 : decode cX4_read 51 = .ok (.aload_n 2, 1) := by decide +kernel
theorem dX4_read_52 : decode cX4_read 52 = .ok (.getfield 90, 3) := by decide +kernel
theorem dX4_read_55 : decode cX4_read 55 = .ok (.iconst 2, 1) := by decide +kernel
theorem dX4_read_56 : decode cX4_read 56 = .ok (.iload_n 3, 1) := by decide +kernel
theorem dX4_read_57 : decode cX4_read 57 = .ok (.imul, 1) := by decide +kernel
theorem dX4_read_58 : decode cX4_read 58 = .ok (.iaload, 1) := by decide +kernel
theorem dX4_read_59 : decode cX4_read 59 = .ok (.istore 4, 2) := by decide +kernel
theorem dX4_read_61 : decode cX4_read 61 = .ok (.aload_n 2, 1) := by decide +kernel
theorem dX4_read_62 : decode cX4_read 62 = .ok (.getfield 90, 3) := by decide +kernel
theorem dX4_read_65 : decode cX4_read 65 = .ok (.iconst 2, 1) := by decide +kernel
theorem dX4_read_66 : decode cX4_read 66 = .ok (.iload_n 3, 1) := by decide +kernel
theorem dX4_read_67 : decode cX4_read 67 = .ok (.imul, 1) := by decide +kernel
theorem dX4_read_68 : decode cX4_read 68 = .ok (.iconst 1, 1) := by decide +kernel
theorem dX4_read_69 : decode cX4_read 69 = .ok (.iadd, 1) := by decide +kernel
theorem dX4_read_70 : decode cX4_read 70 = .ok (.iaload, 1) := by decide +kernel
theorem dX4_read_71 : decode cX4_read 71 = .ok (.istore 5, 2) := by decide +kernel
theorem dX4_read_73 : decode cX4_read 73 = .ok (.iload 4, 2) := by decide +kernel
theorem dX4_read_75 : decode cX4_read 75 = .ok (.bipush 6, 2) := by decide +kernel
theorem dX4_read_77 : decode cX4_read 77 = .ok (.invokestatic 39, 3) := by decide +kernel
theorem dX4_read_80 : decode cX4_read 80 = .ok (.ifCond .eq 36, 3) := by decide +kernel
theorem dX4_read_83 : decode cX4_read 83 = .ok (.iload 5, 2) := by decide +kernel
theorem dX4_read_85 : decode cX4_read 85 = .ok (.bipush 24, 2) := by decide +kernel
theorem dX4_read_87 : decode cX4_read 87 = .ok (.invokestatic 39, 3) := by decide +kernel
theorem dX4_read_90 : decode cX4_read 90 = .ok (.ifCond .eq 26, 3) := by decide +kernel
theorem dX4_read_93 : decode cX4_read 93 = .ok (.aload_n 0, 1) := by decide +kernel
theorem dX4_read_94 : decode cX4_read 94 = .ok (.getfield 20, 3) := by decide +kernel
theorem dX4_read_97 : decode cX4_read 97 = .ok (.iload 4, 2) := by decide +kernel
theorem dX4_read_99 : decode cX4_read 99 = .ok (.iload 5, 2) := by decide +kernel
theorem dX4_read_101 : decode cX4_read 101 = .ok (.invokevirtual 76, 3) := by decide +kernel
theorem dX4_read_104 : decode cX4_read 104 = .ok (.ifCond .ne 6, 3) := by decide +kernel
theorem dX4_read_107 : decode cX4_read 107 = .ok (.goto 9, 3) := by decide +kernel
theorem dX4_read_110 : decode cX4_read 110 = .ok (.iinc 3 1, 3) := by decide +kernel
theorem dX4_read_113 : decode cX4_read 113 = .ok (.goto (-80), 3) := by decide +kernel
theorem dX4_read_116 : decode cX4_read 116 = .ok (.iload_n 3, 1) := by decide +kernel
theorem dX4_read_117 : decode cX4_read 117 = .ok (.ireturn, 1) := by decide +kernel
theorem dX4_undo_0 : decode cX4_undo 0 = .ok (.aload_n 0, 1) := by decide +kernel
theorem dX4_undo_1 : decode cX4_undo 1 = .ok (.getfield 20, 3) := by decide +kernel
theorem dX4_undo_4 : decode cX4_undo 4 = .ok (.getfield 79, 3) := by decide +kernel
theorem dX4_undo_7 : decode cX4_undo 7 = .ok (.ifCond .ne 6, 3) := by decide +kernel
theorem dX4_undo_10 : decode cX4_undo 10 = .ok (.bipush (-3), 2) := by decide +kernel
theorem dX4_undo_12 : decode cX4_undo 12 = .ok (.ireturn, 1) := by decide +kernel
theorem dX4_undo_13 : decode cX4_undo 13 = .ok (.aload_n 0, 1) := by decide +kernel
theorem dX4_undo_14 : decode cX4_undo 14 = .ok (.getfield 20, 3) := by decide +kernel
theorem dX4_undo_17 : decode cX4_undo 17 = .ok (.dup, 1) := by decide +kernel
theorem dX4_undo_18 : decode cX4_undo 18 = .ok (.getfield 79, 3) := by decide +kernel
theorem dX4_undo_21 : decode cX4_undo 21 = .ok (.iconst 1, 1) := by decide +kernel
theorem dX4_undo_22 : decode cX4_undo 22 = .ok (.isub, 1) := by decide +kernel
theorem dX4_undo_23 : decode cX4_undo 23 = .ok (.putfield 79, 3) := by decide +kernel
theorem dX4_undo_26 : decode cX4_undo 26 = .ok (.aload_n 0, 1) := by decide +kernel
theorem dX4_undo_27 : decode cX4_undo 27 = .ok (.getfield 20, 3) := by decide +kernel
theorem dX4_undo_30 : decode cX4_undo 30 = .ok (.getfield 79, 3) := by decide +kernel
theorem dX4_undo_33 : decode cX4_undo 33 = .ok (.ireturn, 1) := by decide +kernel
theorem dX4_worth_0 : decode cX4_worth 0 = .ok (.iload_n 1, 1) := by decide +kernel
theorem dX4_worth_1 : decode cX4_worth 1 = .ok (.bipush 6, 2) := by decide +kernel
theorem dX4_worth_3 : decode cX4_worth 3 = .ok (.invokestatic 39, 3) := by decide +kernel
theorem dX4_worth_6 : decode cX4_worth 6 = .ok (.ifCond .eq 12, 3) := by decide +kernel
theorem dX4_worth_9 : decode cX4_worth 9 = .ok (.iload_n 2, 1) := by decide +kernel
theorem dX4_worth_10 : decode cX4_worth 10 = .ok (.bipush 12, 2) := by decide +kernel
theorem dX4_worth_12 : decode cX4_worth 12 = .ok (.invokestatic 39, 3) := by decide +kernel
theorem dX4_worth_15 : decode cX4_worth 15 = .ok (.ifCond .ne 7, 3) := by decide +kernel
theorem dX4_worth_18 : decode cX4_worth 18 = .ok (.sipush (-1002), 3) := by decide +kernel
theorem dX4_worth_21 : decode cX4_worth 21 = .ok (.ireturn, 1) := by decide +kernel
theorem dX4_worth_22 : decode cX4_worth 22 = .ok (.iload_n 3, 1) := by decide +kernel
theorem dX4_worth_23 : decode cX4_worth 23 = .ok (.bipush (-9), 2) := by decide +kernel
theorem dX4_worth_25 : decode cX4_worth 25 = .ok (.if_icmp .lt 9, 3) := by decide +kernel
theorem dX4_worth_28 : decode cX4_worth 28 = .ok (.iload_n 3, 1) := by decide +kernel
theorem dX4_worth_29 : decode cX4_worth 29 = .ok (.bipush 9, 2) := by decide +kernel
theorem dX4_worth_31 : decode cX4_worth 31 = .ok (.if_icmp .le 7, 3) := by decide +kernel
theorem dX4_worth_34 : decode cX4_worth 34 = .ok (.sipush (-1002), 3) := by decide +kernel
theorem dX4_worth_37 : decode cX4_worth 37 = .ok (.ireturn, 1) := by decide +kernel
theorem dX4_worth_38 : decode cX4_worth 38 = .ok (.aload_n 0, 1) := by decide +kernel
theorem dX4_worth_39 : decode cX4_worth 39 = .ok (.getfield 12, 3) := by decide +kernel
theorem dX4_worth_42 : decode cX4_worth 42 = .ok (.getfield 93, 3) := by decide +kernel
theorem dX4_worth_45 : decode cX4_worth 45 = .ok (.iload_n 1, 1) := by decide +kernel
theorem dX4_worth_46 : decode cX4_worth 46 = .ok (.aaload, 1) := by decide +kernel
theorem dX4_worth_47 : decode cX4_worth 47 = .ok (.iload_n 2, 1) := by decide +kernel
theorem dX4_worth_48 : decode cX4_worth 48 = .ok (.iaload, 1) := by decide +kernel
theorem dX4_worth_49 : decode cX4_worth 49 = .ok (.istore 4, 2) := by decide +kernel
theorem dX4_worth_51 : decode cX4_worth 51 = .ok (.aload_n 0, 1) := by decide +kernel
theorem dX4_worth_52 : decode cX4_worth 52 = .ok (.getfield 12, 3) := by decide +kernel
theorem dX4_worth_55 : decode cX4_worth 55 = .ok (.getfield 93, 3) := by decide +kernel
theorem dX4_worth_58 : decode cX4_worth 58 = .ok (.iload_n 1, 1) := by decide +kernel
theorem dX4_worth_59 : decode cX4_worth 59 = .ok (.aaload, 1) := by decide +kernel
theorem dX4_worth_60 : decode cX4_worth 60 = .ok (.iload_n 2, 1) := by decide +kernel
theorem dX4_worth_61 : decode cX4_worth 61 = .ok (.iload_n 3, 1) := by decide +kernel
theorem dX4_worth_62 : decode cX4_worth 62 = .ok (.iastore, 1) := by decide +kernel
theorem dX4_worth_63 : decode cX4_worth 63 = .ok (.iload 4, 2) := by decide +kernel
theorem dX4_worth_65 : decode cX4_worth 65 = .ok (.ireturn, 1) := by decide +kernel
theorem dX4_judged_0 : decode cX4_judged 0 = .ok (.aload_n 0, 1) := by decide +kernel
theorem dX4_judged_1 : decode cX4_judged 1 = .ok (.getfield 20, 3) := by decide +kernel
theorem dX4_judged_4 : decode cX4_judged 4 = .ok (.iconst (-1), 1) := by decide +kernel
theorem dX4_judged_5 : decode cX4_judged 5 = .ok (.invokevirtual 97, 3) := by decide +kernel
theorem dX4_judged_8 : decode cX4_judged 8 = .ok (.istore_n 1, 1) := by decide +kernel
theorem dX4_judged_9 : decode cX4_judged 9 = .ok (.iconst 0, 1) := by decide +kernel
theorem dX4_judged_10 : decode cX4_judged 10 = .ok (.istore_n 2, 1) := by decide +kernel
theorem dX4_judged_11 : decode cX4_judged 11 = .ok (.iload_n 2, 1) := by decide +kernel
theorem dX4_judged_12 : decode cX4_judged 12 = .ok (.aload_n 0, 1) := by decide +kernel
theorem dX4_judged_13 : decode cX4_judged 13 = .ok (.getfield 20, 3) := by decide +kernel
theorem dX4_judged_16 : decode cX4_judged 16 = .ok (.getfield 79, 3) := by decide +kernel
theorem dX4_judged_19 : decode cX4_judged 19 = .ok (.if_icmp .ge 19, 3) := by decide +kernel
theorem dX4_judged_22 : decode cX4_judged 22 = .ok (.iload_n 1, 1) := by decide +kernel
theorem dX4_judged_23 : decode cX4_judged 23 = .ok (.iload_n 2, 1) := by decide +kernel
theorem dX4_judged_24 : decode cX4_judged 24 = .ok (.invokestatic 72, 3) := by decide +kernel
theorem dX4_judged_27 : decode cX4_judged 27 = .ok (.ifCond .ne 5, 3) := by decide +kernel
theorem dX4_judged_30 : decode cX4_judged 30 = .ok (.iload_n 2, 1) := by decide +kernel
theorem dX4_judged_31 : decode cX4_judged 31 = .ok (.ireturn, 1) := by decide +kernel
theorem dX4_judged_32 : decode cX4_judged 32 = .ok (.iinc 2 1, 3) := by decide +kernel
theorem dX4_judged_35 : decode cX4_judged 35 = .ok (.goto (-24), 3) := by decide +kernel
theorem dX4_judged_38 : decode cX4_judged 38 = .ok (.iconst (-1), 1) := by decide +kernel
theorem dX4_judged_39 : decode cX4_judged 39 = .ok (.ireturn, 1) := by decide +kernel
theorem dX4_holds_0 : decode cX4_holds 0 = .ok (.iload_n 1, 1) := by decide +kernel
theorem dX4_holds_1 : decode cX4_holds 1 = .ok (.aload_n 0, 1) := by decide +kernel
theorem dX4_holds_2 : decode cX4_holds 2 = .ok (.getfield 20, 3) := by decide +kernel
theorem dX4_holds_5 : decode cX4_holds 5 = .ok (.getfield 79, 3) := by decide +kernel
theorem dX4_holds_8 : decode cX4_holds 8 = .ok (.invokestatic 39, 3) := by decide +kernel
theorem dX4_holds_11 : decode cX4_holds 11 = .ok (.ifCond .ne 6, 3) := by decide +kernel
theorem dX4_holds_14 : decode cX4_holds 14 = .ok (.bipush (-2), 2) := by decide +kernel
theorem dX4_holds_16 : decode cX4_holds 16 = .ok (.ireturn, 1) := by decide +kernel
theorem dX4_holds_17 : decode cX4_holds 17 = .ok (.aload_n 0, 1) := by decide +kernel
theorem dX4_holds_18 : decode cX4_holds 18 = .ok (.getfield 20, 3) := by decide +kernel
theorem dX4_holds_21 : decode cX4_holds 21 = .ok (.aload_n 0, 1) := by decide +kernel
theorem dX4_holds_22 : decode cX4_holds 22 = .ok (.getfield 20, 3) := by decide +kernel
theorem dX4_holds_25 : decode cX4_holds 25 = .ok (.iconst (-1), 1) := by decide +kernel
theorem dX4_holds_26 : decode cX4_holds 26 = .ok (.invokevirtual 97, 3) := by decide +kernel
theorem dX4_holds_29 : decode cX4_holds 29 = .ok (.invokevirtual 100, 3) := by decide +kernel
theorem dX4_holds_32 : decode cX4_holds 32 = .ok (.iload_n 1, 1) := by decide +kernel
theorem dX4_holds_33 : decode cX4_holds 33 = .ok (.invokestatic 72, 3) := by decide +kernel
theorem dX4_holds_36 : decode cX4_holds 36 = .ok (.ireturn, 1) := by decide +kernel
theorem dX4_state_0 : decode cX4_state 0 = .ok (.iload_n 1, 1) := by decide +kernel
theorem dX4_state_1 : decode cX4_state 1 = .ok (.aload_n 0, 1) := by decide +kernel
theorem dX4_state_2 : decode cX4_state 2 = .ok (.getfield 20, 3) := by decide +kernel
theorem dX4_state_5 : decode cX4_state 5 = .ok (.getfield 79, 3) := by decide +kernel
theorem dX4_state_8 : decode cX4_state 8 = .ok (.iconst 1, 1) := by decide +kernel
theorem dX4_state_9 : decode cX4_state 9 = .ok (.iadd, 1) := by decide +kernel
theorem dX4_state_10 : decode cX4_state 10 = .ok (.invokestatic 39, 3) := by decide +kernel
theorem dX4_state_13 : decode cX4_state 13 = .ok (.ifCond .eq 11, 3) := by decide +kernel
theorem dX4_state_16 : decode cX4_state 16 = .ok (.iload_n 2, 1) := by decide +kernel
theorem dX4_state_17 : decode cX4_state 17 = .ok (.iconst 2, 1) := by decide +kernel
theorem dX4_state_18 : decode cX4_state 18 = .ok (.invokestatic 39, 3) := by decide +kernel
theorem dX4_state_21 : decode cX4_state 21 = .ok (.ifCond .ne 6, 3) := by decide +kernel
theorem dX4_state_24 : decode cX4_state 24 = .ok (.bipush (-2), 2) := by decide +kernel
theorem dX4_state_26 : decode cX4_state 26 = .ok (.ireturn, 1) := by decide +kernel
theorem dX4_state_27 : decode cX4_state 27 = .ok (.iload_n 2, 1) := by decide +kernel
theorem dX4_state_28 : decode cX4_state 28 = .ok (.ifCond .ne 11, 3) := by decide +kernel
theorem dX4_state_31 : decode cX4_state 31 = .ok (.aload_n 0, 1) := by decide +kernel
theorem dX4_state_32 : decode cX4_state 32 = .ok (.iload_n 1, 1) := by decide +kernel
theorem dX4_state_33 : decode cX4_state 33 = .ok (.invokevirtual 103, 3) := by decide +kernel
theorem dX4_state_36 : decode cX4_state 36 = .ok (.goto 18, 3) := by decide +kernel
theorem dX4_state_39 : decode cX4_state 39 = .ok (.aload_n 0, 1) := by decide +kernel
theorem dX4_state_40 : decode cX4_state 40 = .ok (.getfield 20, 3) := by decide +kernel
theorem dX4_state_43 : decode cX4_state 43 = .ok (.aload_n 0, 1) := by decide +kernel
theorem dX4_state_44 : decode cX4_state 44 = .ok (.getfield 20, 3) := by decide +kernel
theorem dX4_state_47 : decode cX4_state 47 = .ok (.iload_n 1, 1) := by decide +kernel
theorem dX4_state_48 : decode cX4_state 48 = .ok (.invokevirtual 106, 3) := by decide +kernel
theorem dX4_state_51 : decode cX4_state 51 = .ok (.invokevirtual 109, 3) := by decide +kernel
theorem dX4_state_54 : decode cX4_state 54 = .ok (.ireturn, 1) := by decide +kernel
theorem dX4_root_0 : decode cX4_root 0 = .ok (.iload_n 1, 1) := by decide +kernel
theorem dX4_root_1 : decode cX4_root 1 = .ok (.aload_n 0, 1) := by decide +kernel
theorem dX4_root_2 : decode cX4_root 2 = .ok (.getfield 27, 3) := by decide +kernel
theorem dX4_root_5 : decode cX4_root 5 = .ok (.getfield 59, 3) := by decide +kernel
theorem dX4_root_8 : decode cX4_root 8 = .ok (.invokestatic 39, 3) := by decide +kernel
theorem dX4_root_11 : decode cX4_root 11 = .ok (.ifCond .ne 6, 3) := by decide +kernel
theorem dX4_root_14 : decode cX4_root 14 = .ok (.bipush (-2), 2) := by decide +kernel
theorem dX4_root_16 : decode cX4_root 16 = .ok (.ireturn, 1) := by decide +kernel
theorem dX4_root_17 : decode cX4_root 17 = .ok (.aload_n 0, 1) := by decide +kernel
theorem dX4_root_18 : decode cX4_root 18 = .ok (.getfield 27, 3) := by decide +kernel
theorem dX4_root_21 : decode cX4_root 21 = .ok (.iload_n 1, 1) := by decide +kernel
theorem dX4_root_22 : decode cX4_root 22 = .ok (.aload_n 0, 1) := by decide +kernel
theorem dX4_root_23 : decode cX4_root 23 = .ok (.getfield 20, 3) := by decide +kernel
theorem dX4_root_26 : decode cX4_root 26 = .ok (.aload_n 0, 1) := by decide +kernel
theorem dX4_root_27 : decode cX4_root 27 = .ok (.getfield 20, 3) := by decide +kernel
theorem dX4_root_30 : decode cX4_root 30 = .ok (.iconst (-1), 1) := by decide +kernel
theorem dX4_root_31 : decode cX4_root 31 = .ok (.invokevirtual 97, 3) := by decide +kernel
theorem dX4_root_34 : decode cX4_root 34 = .ok (.invokevirtual 112, 3) := by decide +kernel
theorem dX4_root_37 : decode cX4_root 37 = .ok (.invokevirtual 115, 3) := by decide +kernel
theorem dX4_root_40 : decode cX4_root 40 = .ok (.ireturn, 1) := by decide +kernel
theorem dX4_by_0 : decode cX4_by 0 = .ok (.iload_n 1, 1) := by decide +kernel
theorem dX4_by_1 : decode cX4_by 1 = .ok (.aload_n 0, 1) := by decide +kernel
theorem dX4_by_2 : decode cX4_by 2 = .ok (.getfield 20, 3) := by decide +kernel
theorem dX4_by_5 : decode cX4_by 5 = .ok (.getfield 79, 3) := by decide +kernel
theorem dX4_by_8 : decode cX4_by 8 = .ok (.invokestatic 39, 3) := by decide +kernel
theorem dX4_by_11 : decode cX4_by 11 = .ok (.ifCond .ne 6, 3) := by decide +kernel
theorem dX4_by_14 : decode cX4_by 14 = .ok (.bipush (-2), 2) := by decide +kernel
theorem dX4_by_16 : decode cX4_by 16 = .ok (.ireturn, 1) := by decide +kernel
theorem dX4_by_17 : decode cX4_by 17 = .ok (.aload_n 0, 1) := by decide +kernel
theorem dX4_by_18 : decode cX4_by 18 = .ok (.iload_n 1, 1) := by decide +kernel
theorem dX4_by_19 : decode cX4_by 19 = .ok (.invokevirtual 103, 3) := by decide +kernel
theorem dX4_by_22 : decode cX4_by 22 = .ok (.aload_n 0, 1) := by decide +kernel
theorem dX4_by_23 : decode cX4_by 23 = .ok (.iload_n 1, 1) := by decide +kernel
theorem dX4_by_24 : decode cX4_by 24 = .ok (.iconst 1, 1) := by decide +kernel
theorem dX4_by_25 : decode cX4_by 25 = .ok (.iadd, 1) := by decide +kernel
theorem dX4_by_26 : decode cX4_by 26 = .ok (.invokevirtual 103, 3) := by decide +kernel
theorem dX4_by_29 : decode cX4_by 29 = .ok (.ixor, 1) := by decide +kernel
theorem dX4_by_30 : decode cX4_by 30 = .ok (.ireturn, 1) := by decide +kernel
theorem dX4_without_0 : decode cX4_without 0 = .ok (.iload_n 1, 1) := by decide +kernel
theorem dX4_without_1 : decode cX4_without 1 = .ok (.aload_n 0, 1) := by decide +kernel
theorem dX4_without_2 : decode cX4_without 2 = .ok (.getfield 20, 3) := by decide +kernel
theorem dX4_without_5 : decode cX4_without 5 = .ok (.getfield 79, 3) := by decide +kernel
theorem dX4_without_8 : decode cX4_without 8 = .ok (.invokestatic 39, 3) := by decide +kernel
theorem dX4_without_11 : decode cX4_without 11 = .ok (.ifCond .eq 11, 3) := by decide +kernel
theorem dX4_without_14 : decode cX4_without 14 = .ok (.iload_n 2, 1) := by decide +kernel
theorem dX4_without_15 : decode cX4_without 15 = .ok (.iconst 2, 1) := by decide +kernel
theorem dX4_without_16 : decode cX4_without 16 = .ok (.invokestatic 39, 3) := by decide +kernel
theorem dX4_without_19 : decode cX4_without 19 = .ok (.ifCond .ne 6, 3) := by decide +kernel
theorem dX4_without_22 : decode cX4_without 22 = .ok (.bipush (-2), 2) := by decide +kernel
theorem dX4_without_24 : decode cX4_without 24 = .ok (.ireturn, 1) := by decide +kernel
theorem dX4_without_25 : decode cX4_without 25 = .ok (.aload_n 0, 1) := by decide +kernel
theorem dX4_without_26 : decode cX4_without 26 = .ok (.getfield 20, 3) := by decide +kernel
theorem dX4_without_29 : decode cX4_without 29 = .ok (.aload_n 0, 1) := by decide +kernel
theorem dX4_without_30 : decode cX4_without 30 = .ok (.getfield 20, 3) := by decide +kernel
theorem dX4_without_33 : decode cX4_without 33 = .ok (.iload_n 1, 1) := by decide +kernel
theorem dX4_without_34 : decode cX4_without 34 = .ok (.invokevirtual 97, 3) := by decide +kernel
theorem dX4_without_37 : decode cX4_without 37 = .ok (.invokevirtual 118, 3) := by decide +kernel
theorem dX4_without_40 : decode cX4_without 40 = .ok (.istore_n 3, 1) := by decide +kernel
theorem dX4_without_41 : decode cX4_without 41 = .ok (.iload_n 2, 1) := by decide +kernel
theorem dX4_without_42 : decode cX4_without 42 = .ok (.ifCond .ne 7, 3) := by decide +kernel
theorem dX4_without_45 : decode cX4_without 45 = .ok (.iload_n 3, 1) := by decide +kernel
theorem dX4_without_46 : decode cX4_without 46 = .ok (.goto 19, 3) := by decide +kernel
theorem dX4_without_49 : decode cX4_without 49 = .ok (.iload_n 3, 1) := by decide +kernel
theorem dX4_without_50 : decode cX4_without 50 = .ok (.aload_n 0, 1) := by decide +kernel
theorem dX4_without_51 : decode cX4_without 51 = .ok (.aload_n 0, 1) := by decide +kernel
theorem dX4_without_52 : decode cX4_without 52 = .ok (.getfield 20, 3) := by decide +kernel
theorem dX4_without_55 : decode cX4_without 55 = .ok (.getfield 79, 3) := by decide +kernel
theorem dX4_without_58 : decode cX4_without 58 = .ok (.invokevirtual 103, 3) := by decide +kernel
theorem dX4_without_61 : decode cX4_without 61 = .ok (.ixor, 1) := by decide +kernel
theorem dX4_without_62 : decode cX4_without 62 = .ok (.invokestatic 121, 3) := by decide +kernel
theorem dX4_without_65 : decode cX4_without 65 = .ok (.ireturn, 1) := by decide +kernel
theorem dX4_standingBehind_0 : decode cX4_standingBehind 0 = .ok (.aload_n 0, 1) := by decide +kernel
theorem dX4_standingBehind_1 : decode cX4_standingBehind 1 = .ok (.getfield 20, 3) := by decide +kernel
theorem dX4_standingBehind_4 : decode cX4_standingBehind 4 = .ok (.aload_n 0, 1) := by decide +kernel
theorem dX4_standingBehind_5 : decode cX4_standingBehind 5 = .ok (.getfield 20, 3) := by decide +kernel
theorem dX4_standingBehind_8 : decode cX4_standingBehind 8 = .ok (.iload_n 1, 1) := by decide +kernel
theorem dX4_standingBehind_9 : decode cX4_standingBehind 9 = .ok (.invokevirtual 106, 3) := by decide +kernel
theorem dX4_standingBehind_12 : decode cX4_standingBehind 12 = .ok (.invokevirtual 118, 3) := by decide +kernel
theorem dX4_standingBehind_15 : decode cX4_standingBehind 15 = .ok (.ireturn, 1) := by decide +kernel
theorem dX4_fewest_0 : decode cX4_fewest 0 = .ok (.iload_n 1, 1) := by decide +kernel
theorem dX4_fewest_1 : decode cX4_fewest 1 = .ok (.sipush 4096, 3) := by decide +kernel
theorem dX4_fewest_4 : decode cX4_fewest 4 = .ok (.invokestatic 39, 3) := by decide +kernel
theorem dX4_fewest_7 : decode cX4_fewest 7 = .ok (.ifCond .eq 19, 3) := by decide +kernel
theorem dX4_fewest_10 : decode cX4_fewest 10 = .ok (.iload_n 2, 1) := by decide +kernel
theorem dX4_fewest_11 : decode cX4_fewest 11 = .ok (.sipush 4096, 3) := by decide +kernel
theorem dX4_fewest_14 : decode cX4_fewest 14 = .ok (.invokestatic 39, 3) := by decide +kernel
theorem dX4_fewest_17 : decode cX4_fewest 17 = .ok (.ifCond .eq 9, 3) := by decide +kernel
theorem dX4_fewest_20 : decode cX4_fewest 20 = .ok (.iload_n 1, 1) := by decide +kernel
theorem dX4_fewest_21 : decode cX4_fewest 21 = .ok (.iload_n 2, 1) := by decide +kernel
theorem dX4_fewest_22 : decode cX4_fewest 22 = .ok (.iand, 1) := by decide +kernel
theorem dX4_fewest_23 : decode cX4_fewest 23 = .ok (.ifCond .eq 6, 3) := by decide +kernel
theorem dX4_fewest_26 : decode cX4_fewest 26 = .ok (.bipush (-2), 2) := by decide +kernel
theorem dX4_fewest_28 : decode cX4_fewest 28 = .ok (.ireturn, 1) := by decide +kernel
theorem dX4_fewest_29 : decode cX4_fewest 29 = .ok (.iload_n 3, 1) := by decide +kernel
theorem dX4_fewest_30 : decode cX4_fewest 30 = .ok (.iconst 3, 1) := by decide +kernel
theorem dX4_fewest_31 : decode cX4_fewest 31 = .ok (.invokestatic 39, 3) := by decide +kernel
theorem dX4_fewest_34 : decode cX4_fewest 34 = .ok (.ifCond .eq 12, 3) := by decide +kernel
theorem dX4_fewest_37 : decode cX4_fewest 37 = .ok (.iload 4, 2) := by decide +kernel
theorem dX4_fewest_39 : decode cX4_fewest 39 = .ok (.iconst 2, 1) := by decide +kernel
theorem dX4_fewest_40 : decode cX4_fewest 40 = .ok (.invokestatic 39, 3) := by decide +kernel
theorem dX4_fewest_43 : decode cX4_fewest 43 = .ok (.ifCond .ne 6, 3) := by decide +kernel
theorem dX4_fewest_46 : decode cX4_fewest 46 = .ok (.bipush (-2), 2) := by decide +kernel
theorem dX4_fewest_48 : decode cX4_fewest 48 = .ok (.ireturn, 1) := by decide +kernel
theorem dX4_fewest_49 : decode cX4_fewest 49 = .ok (.aload_n 0, 1) := by decide +kernel
theorem dX4_fewest_50 : decode cX4_fewest 50 = .ok (.getfield 12, 3) := by decide +kernel
theorem dX4_fewest_53 : decode cX4_fewest 53 = .ok (.invokevirtual 124, 3) := by decide +kernel
theorem dX4_fewest_56 : decode cX4_fewest 56 = .ok (.aload_n 0, 1) := by decide +kernel
theorem dX4_fewest_57 : decode cX4_fewest 57 = .ok (.getfield 12, 3) := by decide +kernel
theorem dX4_fewest_60 : decode cX4_fewest 60 = .ok (.aload_n 0, 1) := by decide +kernel
theorem dX4_fewest_61 : decode cX4_fewest 61 = .ok (.getfield 12, 3) := by decide +kernel
theorem dX4_fewest_64 : decode cX4_fewest 64 = .ok (.iconst (-1), 1) := by decide +kernel
theorem dX4_fewest_65 : decode cX4_fewest 65 = .ok (.iconst (-1), 1) := by decide +kernel
theorem dX4_fewest_66 : decode cX4_fewest 66 = .ok (.invokevirtual 127, 3) := by decide +kernel
theorem dX4_fewest_69 : decode cX4_fewest 69 = .ok (.iload_n 1, 1) := by decide +kernel
theorem dX4_fewest_70 : decode cX4_fewest 70 = .ok (.iload_n 2, 1) := by decide +kernel
theorem dX4_fewest_71 : decode cX4_fewest 71 = .ok (.invokevirtual 130, 3) := by decide +kernel
theorem dX4_fewest_74 : decode cX4_fewest 74 = .ok (.ifCond .eq 14, 3) := by decide +kernel
theorem dX4_fewest_77 : decode cX4_fewest 77 = .ok (.iload 4, 2) := by decide +kernel
theorem dX4_fewest_79 : decode cX4_fewest 79 = .ok (.ifCond .ne 7, 3) := by decide +kernel
theorem dX4_fewest_82 : decode cX4_fewest 82 = .ok (.iconst 0, 1) := by decide +kernel
theorem dX4_fewest_83 : decode cX4_fewest 83 = .ok (.goto 4, 3) := by decide +kernel
theorem dX4_fewest_86 : decode cX4_fewest 86 = .ok (.iconst (-1), 1) := by decide +kernel
theorem dX4_fewest_87 : decode cX4_fewest 87 = .ok (.ireturn, 1) := by decide +kernel
theorem dX4_fewest_88 : decode cX4_fewest 88 = .ok (.iconst 1, 1) := by decide +kernel
theorem dX4_fewest_89 : decode cX4_fewest 89 = .ok (.istore 5, 2) := by decide +kernel
theorem dX4_fewest_91 : decode cX4_fewest 91 = .ok (.iload 5, 2) := by decide +kernel
theorem dX4_fewest_93 : decode cX4_fewest 93 = .ok (.iload_n 3, 1) := by decide +kernel
theorem dX4_fewest_94 : decode cX4_fewest 94 = .ok (.if_icmp .gt 41, 3) := by decide +kernel
theorem dX4_fewest_97 : decode cX4_fewest 97 = .ok (.aload_n 0, 1) := by decide +kernel
theorem dX4_fewest_98 : decode cX4_fewest 98 = .ok (.getfield 12, 3) := by decide +kernel
theorem dX4_fewest_101 : decode cX4_fewest 101 = .ok (.iload_n 1, 1) := by decide +kernel
theorem dX4_fewest_102 : decode cX4_fewest 102 = .ok (.iload_n 2, 1) := by decide +kernel
theorem dX4_fewest_103 : decode cX4_fewest 103 = .ok (.iload 5, 2) := by decide +kernel
theorem dX4_fewest_105 : decode cX4_fewest 105 = .ok (.invokevirtual 134, 3) := by decide +kernel
theorem dX4_fewest_108 : decode cX4_fewest 108 = .ok (.istore 6, 2) := by decide +kernel
theorem dX4_fewest_110 : decode cX4_fewest 110 = .ok (.iload 6, 2) := by decide +kernel
theorem dX4_fewest_112 : decode cX4_fewest 112 = .ok (.iconst (-1), 1) := by decide +kernel
theorem dX4_fewest_113 : decode cX4_fewest 113 = .ok (.if_icmp .eq 16, 3) := by decide +kernel
theorem dX4_fewest_116 : decode cX4_fewest 116 = .ok (.iload 4, 2) := by decide +kernel
theorem dX4_fewest_118 : decode cX4_fewest 118 = .ok (.ifCond .ne 8, 3) := by decide +kernel
theorem dX4_fewest_121 : decode cX4_fewest 121 = .ok (.iload 5, 2) := by decide +kernel
theorem dX4_fewest_123 : decode cX4_fewest 123 = .ok (.goto 5, 3) := by decide +kernel
theorem dX4_fewest_126 : decode cX4_fewest 126 = .ok (.iload 6, 2) := by decide +kernel
theorem dX4_fewest_128 : decode cX4_fewest 128 = .ok (.ireturn, 1) := by decide +kernel
theorem dX4_fewest_129 : decode cX4_fewest 129 = .ok (.iinc 5 1, 3) := by decide +kernel
theorem dX4_fewest_132 : decode cX4_fewest 132 = .ok (.goto (-41), 3) := by decide +kernel
theorem dX4_fewest_135 : decode cX4_fewest 135 = .ok (.iconst (-1), 1) := by decide +kernel
theorem dX4_fewest_136 : decode cX4_fewest 136 = .ok (.ireturn, 1) := by decide +kernel
theorem dX4_safe_0 : decode cX4_safe 0 = .ok (.iload_n 1, 1) := by decide +kernel
theorem dX4_safe_1 : decode cX4_safe 1 = .ok (.iconst 3, 1) := by decide +kernel
theorem dX4_safe_2 : decode cX4_safe 2 = .ok (.invokestatic 39, 3) := by decide +kernel
theorem dX4_safe_5 : decode cX4_safe 5 = .ok (.ifCond .ne 6, 3) := by decide +kernel
theorem dX4_safe_8 : decode cX4_safe 8 = .ok (.bipush (-2), 2) := by decide +kernel
theorem dX4_safe_10 : decode cX4_safe 10 = .ok (.ireturn, 1) := by decide +kernel
theorem dX4_safe_11 : decode cX4_safe 11 = .ok (.aload_n 0, 1) := by decide +kernel
theorem dX4_safe_12 : decode cX4_safe 12 = .ok (.getfield 12, 3) := by decide +kernel
theorem dX4_safe_15 : decode cX4_safe 15 = .ok (.invokevirtual 124, 3) := by decide +kernel
theorem dX4_safe_18 : decode cX4_safe 18 = .ok (.aload_n 0, 1) := by decide +kernel
theorem dX4_safe_19 : decode cX4_safe 19 = .ok (.getfield 12, 3) := by decide +kernel
theorem dX4_safe_22 : decode cX4_safe 22 = .ok (.iload_n 1, 1) := by decide +kernel
theorem dX4_safe_23 : decode cX4_safe 23 = .ok (.invokevirtual 138, 3) := by decide +kernel
theorem dX4_safe_26 : decode cX4_safe 26 = .ok (.ireturn, 1) := by decide +kernel
theorem dX4_last_0 : decode cX4_last 0 = .ok (.iload_n 1, 1) := by decide +kernel
theorem dX4_last_1 : decode cX4_last 1 = .ok (.bipush 6, 2) := by decide +kernel
theorem dX4_last_3 : decode cX4_last 3 = .ok (.invokestatic 39, 3) := by decide +kernel
theorem dX4_last_6 : decode cX4_last 6 = .ok (.ifCond .eq 25, 3) := by decide +kernel
theorem dX4_last_9 : decode cX4_last 9 = .ok (.iload_n 2, 1) := by decide +kernel
theorem dX4_last_10 : decode cX4_last 10 = .ok (.bipush 6, 2) := by decide +kernel
theorem dX4_last_12 : decode cX4_last 12 = .ok (.invokestatic 39, 3) := by decide +kernel
theorem dX4_last_15 : decode cX4_last 15 = .ok (.ifCond .eq 16, 3) := by decide +kernel
theorem dX4_last_18 : decode cX4_last 18 = .ok (.iload_n 1, 1) := by decide +kernel
theorem dX4_last_19 : decode cX4_last 19 = .ok (.iload_n 2, 1) := by decide +kernel
theorem dX4_last_20 : decode cX4_last 20 = .ok (.if_icmp .eq 11, 3) := by decide +kernel
theorem dX4_last_23 : decode cX4_last 23 = .ok (.iload_n 3, 1) := by decide +kernel
theorem dX4_last_24 : decode cX4_last 24 = .ok (.iconst 4, 1) := by decide +kernel
theorem dX4_last_25 : decode cX4_last 25 = .ok (.invokestatic 39, 3) := by decide +kernel
theorem dX4_last_28 : decode cX4_last 28 = .ok (.ifCond .ne 7, 3) := by decide +kernel
theorem dX4_last_31 : decode cX4_last 31 = .ok (.sipush (-1002), 3) := by decide +kernel
theorem dX4_last_34 : decode cX4_last 34 = .ok (.ireturn, 1) := by decide +kernel
theorem dX4_last_35 : decode cX4_last 35 = .ok (.aload_n 0, 1) := by decide +kernel
theorem dX4_last_36 : decode cX4_last 36 = .ok (.getfield 12, 3) := by decide +kernel
theorem dX4_last_39 : decode cX4_last 39 = .ok (.invokevirtual 124, 3) := by decide +kernel
theorem dX4_last_42 : decode cX4_last 42 = .ok (.aload_n 0, 1) := by decide +kernel
theorem dX4_last_43 : decode cX4_last 43 = .ok (.getfield 12, 3) := by decide +kernel
theorem dX4_last_46 : decode cX4_last 46 = .ok (.iload_n 1, 1) := by decide +kernel
theorem dX4_last_47 : decode cX4_last 47 = .ok (.iload_n 2, 1) := by decide +kernel
theorem dX4_last_48 : decode cX4_last 48 = .ok (.invokevirtual 141, 3) := by decide +kernel
theorem dX4_last_51 : decode cX4_last 51 = .ok (.istore 4, 2) := by decide +kernel
theorem dX4_last_53 : decode cX4_last 53 = .ok (.aload_n 0, 1) := by decide +kernel
theorem dX4_last_54 : decode cX4_last 54 = .ok (.getfield 12, 3) := by decide +kernel
theorem dX4_last_57 : decode cX4_last 57 = .ok (.iload_n 2, 1) := by decide +kernel
theorem dX4_last_58 : decode cX4_last 58 = .ok (.iload 4, 2) := by decide +kernel
theorem dX4_last_60 : decode cX4_last 60 = .ok (.invokevirtual 144, 3) := by decide +kernel
theorem dX4_last_63 : decode cX4_last 63 = .ok (.istore 5, 2) := by decide +kernel
theorem dX4_last_65 : decode cX4_last 65 = .ok (.iload_n 3, 1) := by decide +kernel
theorem dX4_last_66 : decode cX4_last 66 = .ok (.iconst 2, 1) := by decide +kernel
theorem dX4_last_67 : decode cX4_last 67 = .ok (.if_icmp .lt 16, 3) := by decide +kernel
theorem dX4_last_70 : decode cX4_last 70 = .ok (.iload_n 3, 1) := by decide +kernel
theorem dX4_last_71 : decode cX4_last 71 = .ok (.iconst 2, 1) := by decide +kernel
theorem dX4_last_72 : decode cX4_last 72 = .ok (.if_icmp .ne 8, 3) := by decide +kernel
theorem dX4_last_75 : decode cX4_last 75 = .ok (.iload 4, 2) := by decide +kernel
theorem dX4_last_77 : decode cX4_last 77 = .ok (.goto 5, 3) := by decide +kernel
theorem dX4_last_80 : decode cX4_last 80 = .ok (.iload 5, 2) := by decide +kernel
theorem dX4_last_82 : decode cX4_last 82 = .ok (.ireturn, 1) := by decide +kernel
theorem dX4_last_83 : decode cX4_last 83 = .ok (.aload_n 0, 1) := by decide +kernel
theorem dX4_last_84 : decode cX4_last 84 = .ok (.getfield 12, 3) := by decide +kernel
theorem dX4_last_87 : decode cX4_last 87 = .ok (.aload_n 0, 1) := by decide +kernel
theorem dX4_last_88 : decode cX4_last 88 = .ok (.getfield 12, 3) := by decide +kernel
theorem dX4_last_91 : decode cX4_last 91 = .ok (.iload 4, 2) := by decide +kernel
theorem dX4_last_93 : decode cX4_last 93 = .ok (.iload 5, 2) := by decide +kernel
theorem dX4_last_95 : decode cX4_last 95 = .ok (.invokevirtual 127, 3) := by decide +kernel
theorem dX4_last_98 : decode cX4_last 98 = .ok (.iload_n 3, 1) := by decide +kernel
theorem dX4_last_99 : decode cX4_last 99 = .ok (.ifCond .ne 7, 3) := by decide +kernel
theorem dX4_last_102 : decode cX4_last 102 = .ok (.iload_n 1, 1) := by decide +kernel
theorem dX4_last_103 : decode cX4_last 103 = .ok (.goto 4, 3) := by decide +kernel
theorem dX4_last_106 : decode cX4_last 106 = .ok (.iload_n 2, 1) := by decide +kernel
theorem dX4_last_107 : decode cX4_last 107 = .ok (.invokevirtual 147, 3) := by decide +kernel
theorem dX4_last_110 : decode cX4_last 110 = .ok (.ireturn, 1) := by decide +kernel
theorem dX4_seen_0 : decode cX4_seen 0 = .ok (.iload_n 1, 1) := by decide +kernel
theorem dX4_seen_1 : decode cX4_seen 1 = .ok (.bipush 12, 2) := by decide +kernel
theorem dX4_seen_3 : decode cX4_seen 3 = .ok (.invokestatic 39, 3) := by decide +kernel
theorem dX4_seen_6 : decode cX4_seen 6 = .ok (.ifCond .eq 11, 3) := by decide +kernel
theorem dX4_seen_9 : decode cX4_seen 9 = .ok (.iload_n 2, 1) := by decide +kernel
theorem dX4_seen_10 : decode cX4_seen 10 = .ok (.iconst 2, 1) := by decide +kernel
theorem dX4_seen_11 : decode cX4_seen 11 = .ok (.invokestatic 39, 3) := by decide +kernel
theorem dX4_seen_14 : decode cX4_seen 14 = .ok (.ifCond .ne 6, 3) := by decide +kernel
theorem dX4_seen_17 : decode cX4_seen 17 = .ok (.bipush (-2), 2) := by decide +kernel
theorem dX4_seen_19 : decode cX4_seen 19 = .ok (.ireturn, 1) := by decide +kernel
theorem dX4_seen_20 : decode cX4_seen 20 = .ok (.aload_n 0, 1) := by decide +kernel
theorem dX4_seen_21 : decode cX4_seen 21 = .ok (.getfield 150, 3) := by decide +kernel
theorem dX4_seen_24 : decode cX4_seen 24 = .ok (.bipush 8, 2) := by decide +kernel
theorem dX4_seen_26 : decode cX4_seen 26 = .ok (.if_icmp .lt 6, 3) := by decide +kernel
theorem dX4_seen_29 : decode cX4_seen 29 = .ok (.bipush (-4), 2) := by decide +kernel
theorem dX4_seen_31 : decode cX4_seen 31 = .ok (.ireturn, 1) := by decide +kernel
theorem dX4_seen_32 : decode cX4_seen 32 = .ok (.iload_n 2, 1) := by decide +kernel
theorem dX4_seen_33 : decode cX4_seen 33 = .ok (.iconst 1, 1) := by decide +kernel
theorem dX4_seen_34 : decode cX4_seen 34 = .ok (.if_icmp .ne 18, 3) := by decide +kernel
theorem dX4_seen_37 : decode cX4_seen 37 = .ok (.aload_n 0, 1) := by decide +kernel
theorem dX4_seen_38 : decode cX4_seen 38 = .ok (.dup, 1) := by decide +kernel
theorem dX4_seen_39 : decode cX4_seen 39 = .ok (.getfield 153, 3) := by decide +kernel
theorem dX4_seen_42 : decode cX4_seen 42 = .ok (.iconst 1, 1) := by decide +kernel
theorem dX4_seen_43 : decode cX4_seen 43 = .ok (.iload_n 1, 1) := by decide +kernel
theorem dX4_seen_44 : decode cX4_seen 44 = .ok (.ishl, 1) := by decide +kernel
theorem dX4_seen_45 : decode cX4_seen 45 = .ok (.ior, 1) := by decide +kernel
theorem dX4_seen_46 : decode cX4_seen 46 = .ok (.putfield 153, 3) := by decide +kernel
theorem dX4_seen_49 : decode cX4_seen 49 = .ok (.goto 15, 3) := by decide +kernel
theorem dX4_seen_52 : decode cX4_seen 52 = .ok (.aload_n 0, 1) := by decide +kernel
theorem dX4_seen_53 : decode cX4_seen 53 = .ok (.dup, 1) := by decide +kernel
theorem dX4_seen_54 : decode cX4_seen 54 = .ok (.getfield 156, 3) := by decide +kernel
theorem dX4_seen_57 : decode cX4_seen 57 = .ok (.iconst 1, 1) := by decide +kernel
theorem dX4_seen_58 : decode cX4_seen 58 = .ok (.iload_n 1, 1) := by decide +kernel
theorem dX4_seen_59 : decode cX4_seen 59 = .ok (.ishl, 1) := by decide +kernel
theorem dX4_seen_60 : decode cX4_seen 60 = .ok (.ior, 1) := by decide +kernel
theorem dX4_seen_61 : decode cX4_seen 61 = .ok (.putfield 156, 3) := by decide +kernel
theorem dX4_seen_64 : decode cX4_seen 64 = .ok (.aload_n 0, 1) := by decide +kernel
theorem dX4_seen_65 : decode cX4_seen 65 = .ok (.dup, 1) := by decide +kernel
theorem dX4_seen_66 : decode cX4_seen 66 = .ok (.getfield 150, 3) := by decide +kernel
theorem dX4_seen_69 : decode cX4_seen 69 = .ok (.iconst 1, 1) := by decide +kernel
theorem dX4_seen_70 : decode cX4_seen 70 = .ok (.iadd, 1) := by decide +kernel
theorem dX4_seen_71 : decode cX4_seen 71 = .ok (.putfield 150, 3) := by decide +kernel
theorem dX4_seen_74 : decode cX4_seen 74 = .ok (.aload_n 0, 1) := by decide +kernel
theorem dX4_seen_75 : decode cX4_seen 75 = .ok (.getfield 150, 3) := by decide +kernel
theorem dX4_seen_78 : decode cX4_seen 78 = .ok (.ireturn, 1) := by decide +kernel
theorem dX4_forget_0 : decode cX4_forget 0 = .ok (.aload_n 0, 1) := by decide +kernel
theorem dX4_forget_1 : decode cX4_forget 1 = .ok (.getfield 150, 3) := by decide +kernel
theorem dX4_forget_4 : decode cX4_forget 4 = .ok (.istore_n 1, 1) := by decide +kernel
theorem dX4_forget_5 : decode cX4_forget 5 = .ok (.aload_n 0, 1) := by decide +kernel
theorem dX4_forget_6 : decode cX4_forget 6 = .ok (.iconst 0, 1) := by decide +kernel
theorem dX4_forget_7 : decode cX4_forget 7 = .ok (.putfield 150, 3) := by decide +kernel
theorem dX4_forget_10 : decode cX4_forget 10 = .ok (.aload_n 0, 1) := by decide +kernel
theorem dX4_forget_11 : decode cX4_forget 11 = .ok (.iconst 0, 1) := by decide +kernel
theorem dX4_forget_12 : decode cX4_forget 12 = .ok (.putfield 153, 3) := by decide +kernel
theorem dX4_forget_15 : decode cX4_forget 15 = .ok (.aload_n 0, 1) := by decide +kernel
theorem dX4_forget_16 : decode cX4_forget 16 = .ok (.iconst 0, 1) := by decide +kernel
theorem dX4_forget_17 : decode cX4_forget 17 = .ok (.putfield 156, 3) := by decide +kernel
theorem dX4_forget_20 : decode cX4_forget 20 = .ok (.iload_n 1, 1) := by decide +kernel
theorem dX4_forget_21 : decode cX4_forget 21 = .ok (.ireturn, 1) := by decide +kernel
theorem dX4_often_0 : decode cX4_often 0 = .ok (.iconst 0, 1) := by decide +kernel
theorem dX4_often_1 : decode cX4_often 1 = .ok (.istore_n 1, 1) := by decide +kernel
theorem dX4_often_2 : decode cX4_often 2 = .ok (.iconst 0, 1) := by decide +kernel
theorem dX4_often_3 : decode cX4_often 3 = .ok (.istore_n 2, 1) := by decide +kernel
theorem dX4_often_4 : decode cX4_often 4 = .ok (.iload_n 2, 1) := by decide +kernel
theorem dX4_often_5 : decode cX4_often 5 = .ok (.aload_n 0, 1) := by decide +kernel
theorem dX4_often_6 : decode cX4_often 6 = .ok (.getfield 20, 3) := by decide +kernel
theorem dX4_often_9 : decode cX4_often 9 = .ok (.getfield 79, 3) := by decide +kernel
theorem dX4_often_12 : decode cX4_often 12 = .ok (.if_icmp .gt 43, 3) := by decide +kernel
theorem dX4_often_15 : decode cX4_often 15 = .ok (.aload_n 0, 1) := by decide +kernel
theorem dX4_often_16 : decode cX4_often 16 = .ok (.iload_n 2, 1) := by decide +kernel
theorem dX4_often_17 : decode cX4_often 17 = .ok (.invokevirtual 103, 3) := by decide +kernel
theorem dX4_often_20 : decode cX4_often 20 = .ok (.istore_n 3, 1) := by decide +kernel
theorem dX4_often_21 : decode cX4_often 21 = .ok (.iload_n 3, 1) := by decide +kernel
theorem dX4_often_22 : decode cX4_often 22 = .ok (.aload_n 0, 1) := by decide +kernel
theorem dX4_often_23 : decode cX4_often 23 = .ok (.getfield 153, 3) := by decide +kernel
theorem dX4_often_26 : decode cX4_often 26 = .ok (.iand, 1) := by decide +kernel
theorem dX4_often_27 : decode cX4_often 27 = .ok (.aload_n 0, 1) := by decide +kernel
theorem dX4_often_28 : decode cX4_often 28 = .ok (.getfield 153, 3) := by decide +kernel
theorem dX4_often_31 : decode cX4_often 31 = .ok (.if_icmp .ne 18, 3) := by decide +kernel
theorem dX4_often_34 : decode cX4_often 34 = .ok (.iload_n 3, 1) := by decide +kernel
theorem dX4_often_35 : decode cX4_often 35 = .ok (.aload_n 0, 1) := by decide +kernel
theorem dX4_often_36 : decode cX4_often 36 = .ok (.getfield 156, 3) := by decide +kernel
theorem dX4_often_39 : decode cX4_often 39 = .ok (.iand, 1) := by decide +kernel
theorem dX4_often_40 : decode cX4_often 40 = .ok (.ifCond .ne 9, 3) := by decide +kernel
theorem dX4_often_43 : decode cX4_often 43 = .ok (.iload_n 1, 1) := by decide +kernel
theorem dX4_often_44 : decode cX4_often 44 = .ok (.iconst 1, 1) := by decide +kernel
theorem dX4_often_45 : decode cX4_often 45 = .ok (.iload_n 2, 1) := by decide +kernel
theorem dX4_often_46 : decode cX4_often 46 = .ok (.ishl, 1) := by decide +kernel
theorem dX4_often_47 : decode cX4_often 47 = .ok (.ior, 1) := by decide +kernel
theorem dX4_often_48 : decode cX4_often 48 = .ok (.istore_n 1, 1) := by decide +kernel
theorem dX4_often_49 : decode cX4_often 49 = .ok (.iinc 2 1, 3) := by decide +kernel
theorem dX4_often_52 : decode cX4_often 52 = .ok (.goto (-48), 3) := by decide +kernel
theorem dX4_often_55 : decode cX4_often 55 = .ok (.iload_n 1, 1) := by decide +kernel
theorem dX4_often_56 : decode cX4_often 56 = .ok (.ireturn, 1) := by decide +kernel
theorem dX4_drawn_0 : decode cX4_drawn 0 = .ok (.iload_n 2, 1) := by decide +kernel
theorem dX4_drawn_1 : decode cX4_drawn 1 = .ok (.bipush 7, 2) := by decide +kernel
theorem dX4_drawn_3 : decode cX4_drawn 3 = .ok (.invokestatic 39, 3) := by decide +kernel
theorem dX4_drawn_6 : decode cX4_drawn 6 = .ok (.ifCond .eq 11, 3) := by decide +kernel
theorem dX4_drawn_9 : decode cX4_drawn 9 = .ok (.iload_n 3, 1) := by decide +kernel
theorem dX4_drawn_10 : decode cX4_drawn 10 = .ok (.iconst 2, 1) := by decide +kernel
theorem dX4_drawn_11 : decode cX4_drawn 11 = .ok (.invokestatic 39, 3) := by decide +kernel
theorem dX4_drawn_14 : decode cX4_drawn 14 = .ok (.ifCond .ne 6, 3) := by decide +kernel
theorem dX4_drawn_17 : decode cX4_drawn 17 = .ok (.bipush (-2), 2) := by decide +kernel
theorem dX4_drawn_19 : decode cX4_drawn 19 = .ok (.ireturn, 1) := by decide +kernel
theorem dX4_drawn_20 : decode cX4_drawn 20 = .ok (.aload_n 0, 1) := by decide +kernel
theorem dX4_drawn_21 : decode cX4_drawn 21 = .ok (.getfield 12, 3) := by decide +kernel
theorem dX4_drawn_24 : decode cX4_drawn 24 = .ok (.invokevirtual 124, 3) := by decide +kernel
theorem dX4_drawn_27 : decode cX4_drawn 27 = .ok (.aload_n 0, 1) := by decide +kernel
theorem dX4_drawn_28 : decode cX4_drawn 28 = .ok (.getfield 12, 3) := by decide +kernel
theorem dX4_drawn_31 : decode cX4_drawn 31 = .ok (.iload_n 1, 1) := by decide +kernel
theorem dX4_drawn_32 : decode cX4_drawn 32 = .ok (.iload_n 2, 1) := by decide +kernel
theorem dX4_drawn_33 : decode cX4_drawn 33 = .ok (.invokevirtual 159, 3) := by decide +kernel
theorem dX4_drawn_36 : decode cX4_drawn 36 = .ok (.iload_n 3, 1) := by decide +kernel
theorem dX4_drawn_37 : decode cX4_drawn 37 = .ok (.ifCond .ne 20, 3) := by decide +kernel
theorem dX4_drawn_40 : decode cX4_drawn 40 = .ok (.aload_n 0, 1) := by decide +kernel
theorem dX4_drawn_41 : decode cX4_drawn 41 = .ok (.getfield 27, 3) := by decide +kernel
theorem dX4_drawn_44 : decode cX4_drawn 44 = .ok (.aload_n 0, 1) := by decide +kernel
theorem dX4_drawn_45 : decode cX4_drawn 45 = .ok (.getfield 12, 3) := by decide +kernel
theorem dX4_drawn_48 : decode cX4_drawn 48 = .ok (.getfield 163, 3) := by decide +kernel
theorem dX4_drawn_51 : decode cX4_drawn 51 = .ok (.invokevirtual 166, 3) := by decide +kernel
theorem dX4_drawn_54 : decode cX4_drawn 54 = .ok (.goto 10, 3) := by decide +kernel
theorem dX4_drawn_57 : decode cX4_drawn 57 = .ok (.aload_n 0, 1) := by decide +kernel
theorem dX4_drawn_58 : decode cX4_drawn 58 = .ok (.getfield 12, 3) := by decide +kernel
theorem dX4_drawn_61 : decode cX4_drawn 61 = .ok (.getfield 167, 3) := by decide +kernel
theorem dX4_drawn_64 : decode cX4_drawn 64 = .ok (.ireturn, 1) := by decide +kernel
theorem dX4_sheet_0 : decode cX4_sheet 0 = .ok (.iload_n 1, 1) := by decide +kernel
theorem dX4_sheet_1 : decode cX4_sheet 1 = .ok (.iconst 4, 1) := by decide +kernel
theorem dX4_sheet_2 : decode cX4_sheet 2 = .ok (.invokestatic 39, 3) := by decide +kernel
theorem dX4_sheet_5 : decode cX4_sheet 5 = .ok (.ifCond .eq 17, 3) := by decide +kernel
theorem dX4_sheet_8 : decode cX4_sheet 8 = .ok (.iload_n 2, 1) := by decide +kernel
theorem dX4_sheet_9 : decode cX4_sheet 9 = .ok (.iconst 3, 1) := by decide +kernel
theorem dX4_sheet_10 : decode cX4_sheet 10 = .ok (.invokestatic 39, 3) := by decide +kernel
theorem dX4_sheet_13 : decode cX4_sheet 13 = .ok (.ifCond .eq 9, 3) := by decide +kernel
theorem dX4_sheet_16 : decode cX4_sheet 16 = .ok (.iload_n 3, 1) := by decide +kernel
theorem dX4_sheet_17 : decode cX4_sheet 17 = .ok (.bipush 60, 2) := by decide +kernel
theorem dX4_sheet_19 : decode cX4_sheet 19 = .ok (.if_icmp .le 6, 3) := by decide +kernel
theorem dX4_sheet_22 : decode cX4_sheet 22 = .ok (.bipush (-2), 2) := by decide +kernel
theorem dX4_sheet_24 : decode cX4_sheet 24 = .ok (.ireturn, 1) := by decide +kernel
theorem dX4_sheet_25 : decode cX4_sheet 25 = .ok (.iload_n 3, 1) := by decide +kernel
theorem dX4_sheet_26 : decode cX4_sheet 26 = .ok (.ifCond .ge 9, 3) := by decide +kernel
theorem dX4_sheet_29 : decode cX4_sheet 29 = .ok (.aload_n 0, 1) := by decide +kernel
theorem dX4_sheet_30 : decode cX4_sheet 30 = .ok (.iconst 5, 1) := by decide +kernel
theorem dX4_sheet_31 : decode cX4_sheet 31 = .ok (.invokevirtual 84, 3) := by decide +kernel
theorem dX4_sheet_34 : decode cX4_sheet 34 = .ok (.ireturn, 1) := by decide +kernel
theorem dX4_sheet_35 : decode cX4_sheet 35 = .ok (.aload_n 0, 1) := by decide +kernel
theorem dX4_sheet_36 : decode cX4_sheet 36 = .ok (.getfield 30, 3) := by decide +kernel
theorem dX4_sheet_39 : decode cX4_sheet 39 = .ok (.iload_n 1, 1) := by decide +kernel
theorem dX4_sheet_40 : decode cX4_sheet 40 = .ok (.aaload, 1) := by decide +kernel
theorem dX4_sheet_41 : decode cX4_sheet 41 = .ok (.iload_n 2, 1) := by decide +kernel
theorem dX4_sheet_42 : decode cX4_sheet 42 = .ok (.iload_n 3, 1) := by decide +kernel
theorem dX4_sheet_43 : decode cX4_sheet 43 = .ok (.invokevirtual 170, 3) := by decide +kernel
theorem dX4_sheet_46 : decode cX4_sheet 46 = .ok (.iload_n 3, 1) := by decide +kernel
theorem dX4_sheet_47 : decode cX4_sheet 47 = .ok (.ireturn, 1) := by decide +kernel
theorem dX4_lose_0 : decode cX4_lose 0 = .ok (.iload_n 1, 1) := by decide +kernel
theorem dX4_lose_1 : decode cX4_lose 1 = .ok (.iconst 4, 1) := by decide +kernel
theorem dX4_lose_2 : decode cX4_lose 2 = .ok (.invokestatic 39, 3) := by decide +kernel
theorem dX4_lose_5 : decode cX4_lose 5 = .ok (.ifCond .ne 6, 3) := by decide +kernel
theorem dX4_lose_8 : decode cX4_lose 8 = .ok (.bipush (-2), 2) := by decide +kernel
theorem dX4_lose_10 : decode cX4_lose 10 = .ok (.ireturn, 1) := by decide +kernel
theorem dX4_lose_11 : decode cX4_lose 11 = .ok (.aload_n 0, 1) := by decide +kernel
theorem dX4_lose_12 : decode cX4_lose 12 = .ok (.getfield 30, 3) := by decide +kernel
theorem dX4_lose_15 : decode cX4_lose 15 = .ok (.iload_n 1, 1) := by decide +kernel
theorem dX4_lose_16 : decode cX4_lose 16 = .ok (.aaload, 1) := by decide +kernel
theorem dX4_lose_17 : decode cX4_lose 17 = .ok (.astore_n 2, 1) := by decide +kernel
theorem dX4_lose_18 : decode cX4_lose 18 = .ok (.aload_n 2, 1) := by decide +kernel
theorem dX4_lose_19 : decode cX4_lose 19 = .ok (.getfield 80, 3) := by decide +kernel
theorem dX4_lose_22 : decode cX4_lose 22 = .ok (.ifCond .eq 9, 3) := by decide +kernel
theorem dX4_lose_25 : decode cX4_lose 25 = .ok (.aload_n 0, 1) := by decide +kernel
theorem dX4_lose_26 : decode cX4_lose 26 = .ok (.iconst 1, 1) := by decide +kernel
theorem dX4_lose_27 : decode cX4_lose 27 = .ok (.invokevirtual 84, 3) := by decide +kernel
theorem dX4_lose_30 : decode cX4_lose 30 = .ok (.ireturn, 1) := by decide +kernel
theorem dX4_lose_31 : decode cX4_lose 31 = .ok (.aload_n 2, 1) := by decide +kernel
theorem dX4_lose_32 : decode cX4_lose 32 = .ok (.iconst 1, 1) := by decide +kernel
theorem dX4_lose_33 : decode cX4_lose 33 = .ok (.putfield 80, 3) := by decide +kernel
theorem dX4_lose_36 : decode cX4_lose 36 = .ok (.aload_n 2, 1) := by decide +kernel
theorem dX4_lose_37 : decode cX4_lose 37 = .ok (.getfield 87, 3) := by decide +kernel
theorem dX4_lose_40 : decode cX4_lose 40 = .ok (.ireturn, 1) := by decide +kernel
theorem dX4_lay_0 : decode cX4_lay 0 = .ok (.iload_n 1, 1) := by decide +kernel
theorem dX4_lay_1 : decode cX4_lay 1 = .ok (.iconst 4, 1) := by decide +kernel
theorem dX4_lay_2 : decode cX4_lay 2 = .ok (.invokestatic 39, 3) := by decide +kernel
theorem dX4_lay_5 : decode cX4_lay 5 = .ok (.ifCond .eq 11, 3) := by decide +kernel
theorem dX4_lay_8 : decode cX4_lay 8 = .ok (.iload_n 2, 1) := by decide +kernel
theorem dX4_lay_9 : decode cX4_lay 9 = .ok (.iconst 3, 1) := by decide +kernel
theorem dX4_lay_10 : decode cX4_lay 10 = .ok (.invokestatic 39, 3) := by decide +kernel
theorem dX4_lay_13 : decode cX4_lay 13 = .ok (.ifCond .ne 6, 3) := by decide +kernel
theorem dX4_lay_16 : decode cX4_lay 16 = .ok (.bipush (-2), 2) := by decide +kernel
theorem dX4_lay_18 : decode cX4_lay 18 = .ok (.ireturn, 1) := by decide +kernel
theorem dX4_lay_19 : decode cX4_lay 19 = .ok (.aload_n 0, 1) := by decide +kernel
theorem dX4_lay_20 : decode cX4_lay 20 = .ok (.getfield 30, 3) := by decide +kernel
theorem dX4_lay_23 : decode cX4_lay 23 = .ok (.iload_n 1, 1) := by decide +kernel
theorem dX4_lay_24 : decode cX4_lay 24 = .ok (.aaload, 1) := by decide +kernel
theorem dX4_lay_25 : decode cX4_lay 25 = .ok (.iload_n 2, 1) := by decide +kernel
theorem dX4_lay_26 : decode cX4_lay 26 = .ok (.iload_n 3, 1) := by decide +kernel
theorem dX4_lay_27 : decode cX4_lay 27 = .ok (.invokevirtual 173, 3) := by decide +kernel
theorem dX4_lay_30 : decode cX4_lay 30 = .ok (.istore 5, 2) := by decide +kernel
theorem dX4_lay_32 : decode cX4_lay 32 = .ok (.iload 5, 2) := by decide +kernel
theorem dX4_lay_34 : decode cX4_lay 34 = .ok (.ifCond .eq 10, 3) := by decide +kernel
theorem dX4_lay_37 : decode cX4_lay 37 = .ok (.aload_n 0, 1) := by decide +kernel
theorem dX4_lay_38 : decode cX4_lay 38 = .ok (.iload 5, 2) := by decide +kernel
theorem dX4_lay_40 : decode cX4_lay 40 = .ok (.invokevirtual 84, 3) := by decide +kernel
theorem dX4_lay_43 : decode cX4_lay 43 = .ok (.ireturn, 1) := by decide +kernel
theorem dX4_lay_44 : decode cX4_lay 44 = .ok (.aload_n 0, 1) := by decide +kernel
theorem dX4_lay_45 : decode cX4_lay 45 = .ok (.getfield 30, 3) := by decide +kernel
theorem dX4_lay_48 : decode cX4_lay 48 = .ok (.iload_n 1, 1) := by decide +kernel
theorem dX4_lay_49 : decode cX4_lay 49 = .ok (.aaload, 1) := by decide +kernel
theorem dX4_lay_50 : decode cX4_lay 50 = .ok (.iload_n 3, 1) := by decide +kernel
theorem dX4_lay_51 : decode cX4_lay 51 = .ok (.iload 4, 2) := by decide +kernel
theorem dX4_lay_53 : decode cX4_lay 53 = .ok (.invokevirtual 176, 3) := by decide +kernel
theorem dX4_lay_56 : decode cX4_lay 56 = .ok (.iconst 1, 1) := by decide +kernel
theorem dX4_lay_57 : decode cX4_lay 57 = .ok (.ireturn, 1) := by decide +kernel
theorem dX4_get_0 : decode cX4_get 0 = .ok (.iload_n 1, 1) := by decide +kernel
theorem dX4_get_1 : decode cX4_get 1 = .ok (.iconst 4, 1) := by decide +kernel
theorem dX4_get_2 : decode cX4_get 2 = .ok (.invokestatic 39, 3) := by decide +kernel
theorem dX4_get_5 : decode cX4_get 5 = .ok (.ifCond .eq 11, 3) := by decide +kernel
theorem dX4_get_8 : decode cX4_get 8 = .ok (.iload_n 2, 1) := by decide +kernel
theorem dX4_get_9 : decode cX4_get 9 = .ok (.iconst 3, 1) := by decide +kernel
theorem dX4_get_10 : decode cX4_get 10 = .ok (.invokestatic 39, 3) := by decide +kernel
theorem dX4_get_13 : decode cX4_get 13 = .ok (.ifCond .ne 6, 3) := by decide +kernel
theorem dX4_get_16 : decode cX4_get 16 = .ok (.ldc 179, 2) := by decide +kernel
theorem dX4_get_18 : decode cX4_get 18 = .ok (.ireturn, 1) := by decide +kernel
theorem dX4_get_19 : decode cX4_get 19 = .ok (.aload_n 0, 1) := by decide +kernel
theorem dX4_get_20 : decode cX4_get 20 = .ok (.getfield 30, 3) := by decide +kernel
theorem dX4_get_23 : decode cX4_get 23 = .ok (.iload_n 1, 1) := by decide +kernel
theorem dX4_get_24 : decode cX4_get 24 = .ok (.aaload, 1) := by decide +kernel
theorem dX4_get_25 : decode cX4_get 25 = .ok (.iload_n 2, 1) := by decide +kernel
theorem dX4_get_26 : decode cX4_get 26 = .ok (.iload_n 3, 1) := by decide +kernel
theorem dX4_get_27 : decode cX4_get 27 = .ok (.invokevirtual 173, 3) := by decide +kernel
theorem dX4_get_30 : decode cX4_get 30 = .ok (.istore 4, 2) := by decide +kernel
theorem dX4_get_32 : decode cX4_get 32 = .ok (.iload 4, 2) := by decide +kernel
theorem dX4_get_34 : decode cX4_get 34 = .ok (.ifCond .eq 12, 3) := by decide +kernel
theorem dX4_get_37 : decode cX4_get 37 = .ok (.aload_n 0, 1) := by decide +kernel
theorem dX4_get_38 : decode cX4_get 38 = .ok (.iload 4, 2) := by decide +kernel
theorem dX4_get_40 : decode cX4_get 40 = .ok (.putfield 34, 3) := by decide +kernel
theorem dX4_get_43 : decode cX4_get 43 = .ok (.ldc 179, 2) := by decide +kernel
theorem dX4_get_45 : decode cX4_get 45 = .ok (.ireturn, 1) := by decide +kernel
theorem dX4_get_46 : decode cX4_get 46 = .ok (.aload_n 0, 1) := by decide +kernel
theorem dX4_get_47 : decode cX4_get 47 = .ok (.getfield 30, 3) := by decide +kernel
theorem dX4_get_50 : decode cX4_get 50 = .ok (.iload_n 1, 1) := by decide +kernel
theorem dX4_get_51 : decode cX4_get 51 = .ok (.aaload, 1) := by decide +kernel
theorem dX4_get_52 : decode cX4_get 52 = .ok (.getfield 90, 3) := by decide +kernel
theorem dX4_get_55 : decode cX4_get 55 = .ok (.iload_n 3, 1) := by decide +kernel
theorem dX4_get_56 : decode cX4_get 56 = .ok (.iaload, 1) := by decide +kernel
theorem dX4_get_57 : decode cX4_get 57 = .ok (.ireturn, 1) := by decide +kernel
theorem dX4_copy_0 : decode cX4_copy 0 = .ok (.iload_n 1, 1) := by decide +kernel
theorem dX4_copy_1 : decode cX4_copy 1 = .ok (.iconst 4, 1) := by decide +kernel
theorem dX4_copy_2 : decode cX4_copy 2 = .ok (.invokestatic 39, 3) := by decide +kernel
theorem dX4_copy_5 : decode cX4_copy 5 = .ok (.ifCond .eq 11, 3) := by decide +kernel
theorem dX4_copy_8 : decode cX4_copy 8 = .ok (.iload_n 3, 1) := by decide +kernel
theorem dX4_copy_9 : decode cX4_copy 9 = .ok (.iconst 4, 1) := by decide +kernel
theorem dX4_copy_10 : decode cX4_copy 10 = .ok (.invokestatic 39, 3) := by decide +kernel
theorem dX4_copy_13 : decode cX4_copy 13 = .ok (.ifCond .ne 6, 3) := by decide +kernel
theorem dX4_copy_16 : decode cX4_copy 16 = .ok (.bipush (-2), 2) := by decide +kernel
theorem dX4_copy_18 : decode cX4_copy 18 = .ok (.ireturn, 1) := by decide +kernel
theorem dX4_copy_19 : decode cX4_copy 19 = .ok (.aload_n 0, 1) := by decide +kernel
theorem dX4_copy_20 : decode cX4_copy 20 = .ok (.getfield 30, 3) := by decide +kernel
theorem dX4_copy_23 : decode cX4_copy 23 = .ok (.iload_n 1, 1) := by decide +kernel
theorem dX4_copy_24 : decode cX4_copy 24 = .ok (.aaload, 1) := by decide +kernel
theorem dX4_copy_25 : decode cX4_copy 25 = .ok (.astore 6, 2) := by decide +kernel
theorem dX4_copy_27 : decode cX4_copy 27 = .ok (.aload_n 0, 1) := by decide +kernel
theorem dX4_copy_28 : decode cX4_copy 28 = .ok (.getfield 30, 3) := by decide +kernel
theorem dX4_copy_31 : decode cX4_copy 31 = .ok (.iload_n 3, 1) := by decide +kernel
theorem dX4_copy_32 : decode cX4_copy 32 = .ok (.aaload, 1) := by decide +kernel
theorem dX4_copy_33 : decode cX4_copy 33 = .ok (.astore 7, 2) := by decide +kernel
theorem dX4_copy_35 : decode cX4_copy 35 = .ok (.aload 6, 2) := by decide +kernel
theorem dX4_copy_37 : decode cX4_copy 37 = .ok (.getfield 80, 3) := by decide +kernel
theorem dX4_copy_40 : decode cX4_copy 40 = .ok (.ifCond .ne 11, 3) := by decide +kernel
theorem dX4_copy_43 : decode cX4_copy 43 = .ok (.aload 7, 2) := by decide +kernel
theorem dX4_copy_45 : decode cX4_copy 45 = .ok (.getfield 80, 3) := by decide +kernel
theorem dX4_copy_48 : decode cX4_copy 48 = .ok (.ifCond .eq 9, 3) := by decide +kernel
theorem dX4_copy_51 : decode cX4_copy 51 = .ok (.aload_n 0, 1) := by decide +kernel
theorem dX4_copy_52 : decode cX4_copy 52 = .ok (.iconst 1, 1) := by decide +kernel
theorem dX4_copy_53 : decode cX4_copy 53 = .ok (.invokevirtual 84, 3) := by decide +kernel
theorem dX4_copy_56 : decode cX4_copy 56 = .ok (.ireturn, 1) := by decide +kernel
theorem dX4_copy_57 : decode cX4_copy 57 = .ok (.aload 6, 2) := by decide +kernel
theorem dX4_copy_59 : decode cX4_copy 59 = .ok (.getfield 180, 3) := by decide +kernel
theorem dX4_copy_62 : decode cX4_copy 62 = .ok (.aload 7, 2) := by decide +kernel
theorem dX4_copy_64 : decode cX4_copy 64 = .ok (.getfield 180, 3) := by decide +kernel
theorem dX4_copy_67 : decode cX4_copy 67 = .ok (.if_icmp .eq 9, 3) := by decide +kernel
theorem dX4_copy_70 : decode cX4_copy 70 = .ok (.aload_n 0, 1) := by decide +kernel
theorem dX4_copy_71 : decode cX4_copy 71 = .ok (.iconst 4, 1) := by decide +kernel
theorem dX4_copy_72 : decode cX4_copy 72 = .ok (.invokevirtual 84, 3) := by decide +kernel
theorem dX4_copy_75 : decode cX4_copy 75 = .ok (.ireturn, 1) := by decide +kernel
theorem dX4_copy_76 : decode cX4_copy 76 = .ok (.aload 6, 2) := by decide +kernel
theorem dX4_copy_78 : decode cX4_copy 78 = .ok (.iload_n 2, 1) := by decide +kernel
theorem dX4_copy_79 : decode cX4_copy 79 = .ok (.iload 5, 2) := by decide +kernel
theorem dX4_copy_81 : decode cX4_copy 81 = .ok (.invokevirtual 183, 3) := by decide +kernel
theorem dX4_copy_84 : decode cX4_copy 84 = .ok (.ifCond .eq 15, 3) := by decide +kernel
theorem dX4_copy_87 : decode cX4_copy 87 = .ok (.aload 7, 2) := by decide +kernel
theorem dX4_copy_89 : decode cX4_copy 89 = .ok (.iload 4, 2) := by decide +kernel
theorem dX4_copy_91 : decode cX4_copy 91 = .ok (.iload 5, 2) := by decide +kernel
theorem dX4_copy_93 : decode cX4_copy 93 = .ok (.invokevirtual 183, 3) := by decide +kernel
theorem dX4_copy_96 : decode cX4_copy 96 = .ok (.ifCond .ne 9, 3) := by decide +kernel
theorem dX4_copy_99 : decode cX4_copy 99 = .ok (.aload_n 0, 1) := by decide +kernel
theorem dX4_copy_100 : decode cX4_copy 100 = .ok (.iconst 2, 1) := by decide +kernel
theorem dX4_copy_101 : decode cX4_copy 101 = .ok (.invokevirtual 84, 3) := by decide +kernel
theorem dX4_copy_104 : decode cX4_copy 104 = .ok (.ireturn, 1) := by decide +kernel
theorem dX4_copy_105 : decode cX4_copy 105 = .ok (.aload 6, 2) := by decide +kernel
theorem dX4_copy_107 : decode cX4_copy 107 = .ok (.getfield 90, 3) := by decide +kernel
theorem dX4_copy_110 : decode cX4_copy 110 = .ok (.iload_n 2, 1) := by decide +kernel
theorem dX4_copy_111 : decode cX4_copy 111 = .ok (.aload 7, 2) := by decide +kernel
theorem dX4_copy_113 : decode cX4_copy 113 = .ok (.getfield 90, 3) := by decide +kernel
theorem dX4_copy_116 : decode cX4_copy 116 = .ok (.iload 4, 2) := by decide +kernel
theorem dX4_copy_118 : decode cX4_copy 118 = .ok (.iload 5, 2) := by decide +kernel
theorem dX4_copy_120 : decode cX4_copy 120 = .ok (.invokestatic 186, 3) := by decide +kernel
theorem dX4_copy_123 : decode cX4_copy 123 = .ok (.iconst 1, 1) := by decide +kernel
theorem dX4_copy_124 : decode cX4_copy 124 = .ok (.ireturn, 1) := by decide +kernel
theorem dX4_write_0 : decode cX4_write 0 = .ok (.iload_n 1, 1) := by decide +kernel
theorem dX4_write_1 : decode cX4_write 1 = .ok (.iconst 4, 1) := by decide +kernel
theorem dX4_write_2 : decode cX4_write 2 = .ok (.invokestatic 39, 3) := by decide +kernel
theorem dX4_write_5 : decode cX4_write 5 = .ok (.ifCond .ne 6, 3) := by decide +kernel
theorem dX4_write_8 : decode cX4_write 8 = .ok (.bipush (-2), 2) := by decide +kernel
theorem dX4_write_10 : decode cX4_write 10 = .ok (.ireturn, 1) := by decide +kernel
theorem dX4_write_11 : decode cX4_write 11 = .ok (.aload_n 0, 1) := by decide +kernel
theorem dX4_write_12 : decode cX4_write 12 = .ok (.getfield 30, 3) := by decide +kernel
theorem dX4_write_15 : decode cX4_write 15 = .ok (.iload_n 1, 1) := by decide +kernel
theorem dX4_write_16 : decode cX4_write 16 = .ok (.aaload, 1) := by decide +kernel
theorem dX4_write_17 : decode cX4_write 17 = .ok (.astore_n 2, 1) := by decide +kernel
theorem dX4_write_18 : decode cX4_write 18 = .ok (.aload_n 2, 1) := by decide +kernel
theorem dX4_write_19 : decode cX4_write 19 = .ok (.getfield 80, 3) := by decide +kernel
theorem dX4_write_22 : decode cX4_write 22 = .ok (.ifCond .eq 9, 3) := by decide +kernel
theorem dX4_write_25 : decode cX4_write 25 = .ok (.aload_n 0, 1) := by decide +kernel
theorem dX4_write_26 : decode cX4_write 26 = .ok (.iconst 1, 1) := by decide +kernel
theorem dX4_write_27 : decode cX4_write 27 = .ok (.invokevirtual 84, 3) := by decide +kernel
theorem dX4_write_30 : decode cX4_write 30 = .ok (.ireturn, 1) := by decide +kernel
theorem dX4_write_31 : decode cX4_write 31 = .ok (.aload_n 0, 1) := by decide +kernel
theorem dX4_write_32 : decode cX4_write 32 = .ok (.getfield 20, 3) := by decide +kernel
theorem dX4_write_35 : decode cX4_write 35 = .ok (.aload_n 0, 1) := by decide +kernel
theorem dX4_write_36 : decode cX4_write 36 = .ok (.getfield 20, 3) := by decide +kernel
theorem dX4_write_39 : decode cX4_write 39 = .ok (.iconst (-1), 1) := by decide +kernel
theorem dX4_write_40 : decode cX4_write 40 = .ok (.invokevirtual 97, 3) := by decide +kernel
theorem dX4_write_43 : decode cX4_write 43 = .ok (.invokevirtual 112, 3) := by decide +kernel
theorem dX4_write_46 : decode cX4_write 46 = .ok (.istore_n 3, 1) := by decide +kernel
theorem dX4_write_47 : decode cX4_write 47 = .ok (.aload_n 2, 1) := by decide +kernel
theorem dX4_write_48 : decode cX4_write 48 = .ok (.getfield 87, 3) := by decide +kernel
theorem dX4_write_51 : decode cX4_write 51 = .ok (.aload_n 0, 1) := by decide +kernel
theorem dX4_write_52 : decode cX4_write 52 = .ok (.getfield 27, 3) := by decide +kernel
theorem dX4_write_55 : decode cX4_write 55 = .ok (.getfield 59, 3) := by decide +kernel
theorem dX4_write_58 : decode cX4_write 58 = .ok (.invokestatic 192, 3) := by decide +kernel
theorem dX4_write_61 : decode cX4_write 61 = .ok (.istore 4, 2) := by decide +kernel
theorem dX4_write_63 : decode cX4_write 63 = .ok (.iconst 0, 1) := by decide +kernel
theorem dX4_write_64 : decode cX4_write 64 = .ok (.istore 5, 2) := by decide +kernel
theorem dX4_write_66 : decode cX4_write 66 = .ok (.iload 5, 2) := by decide +kernel
theorem dX4_write_68 : decode cX4_write 68 = .ok (.iload 4, 2) := by decide +kernel
theorem dX4_write_70 : decode cX4_write 70 = .ok (.if_icmp .ge 25, 3) := by decide +kernel
theorem dX4_write_73 : decode cX4_write 73 = .ok (.aload_n 2, 1) := by decide +kernel
theorem dX4_write_74 : decode cX4_write 74 = .ok (.iload 5, 2) := by decide +kernel
theorem dX4_write_76 : decode cX4_write 76 = .ok (.aload_n 0, 1) := by decide +kernel
theorem dX4_write_77 : decode cX4_write 77 = .ok (.getfield 27, 3) := by decide +kernel
theorem dX4_write_80 : decode cX4_write 80 = .ok (.iload 5, 2) := by decide +kernel
theorem dX4_write_82 : decode cX4_write 82 = .ok (.iload_n 3, 1) := by decide +kernel
theorem dX4_write_83 : decode cX4_write 83 = .ok (.invokevirtual 115, 3) := by decide +kernel
theorem dX4_write_86 : decode cX4_write 86 = .ok (.invokevirtual 176, 3) := by decide +kernel
theorem dX4_write_89 : decode cX4_write 89 = .ok (.iinc 5 1, 3) := by decide +kernel
theorem dX4_write_92 : decode cX4_write 92 = .ok (.goto (-26), 3) := by decide +kernel
theorem dX4_write_95 : decode cX4_write 95 = .ok (.iload 4, 2) := by decide +kernel
theorem dX4_write_97 : decode cX4_write 97 = .ok (.ireturn, 1) := by decide +kernel
theorem dX4_count_0 : decode cX4_count 0 = .ok (.aload_n 0, 1) := by decide +kernel
theorem dX4_count_1 : decode cX4_count 1 = .ok (.getfield 20, 3) := by decide +kernel
theorem dX4_count_4 : decode cX4_count 4 = .ok (.iconst (-1), 1) := by decide +kernel
theorem dX4_count_5 : decode cX4_count 5 = .ok (.invokevirtual 97, 3) := by decide +kernel
theorem dX4_count_8 : decode cX4_count 8 = .ok (.istore_n 2, 1) := by decide +kernel
theorem dX4_count_9 : decode cX4_count 9 = .ok (.iload_n 1, 1) := by decide +kernel
theorem dX4_count_10 : decode cX4_count 10 = .ok (.tableswitch 132 0 8 #[50, 58, 66, 74, 87, 99, 111, 116, 127], 50) := by decide +kernel
theorem dX4_count_60 : decode cX4_count 60 = .ok (.aload_n 0, 1) := by decide +kernel
theorem dX4_count_61 : decode cX4_count 61 = .ok (.getfield 27, 3) := by decide +kernel
theorem dX4_count_64 : decode cX4_count 64 = .ok (.getfield 59, 3) := by decide +kernel
theorem dX4_count_67 : decode cX4_count 67 = .ok (.ireturn, 1) := by decide +kernel
theorem dX4_count_68 : decode cX4_count 68 = .ok (.aload_n 0, 1) := by decide +kernel
theorem dX4_count_69 : decode cX4_count 69 = .ok (.getfield 27, 3) := by decide +kernel
theorem dX4_count_72 : decode cX4_count 72 = .ok (.getfield 43, 3) := by decide +kernel
theorem dX4_count_75 : decode cX4_count 75 = .ok (.ireturn, 1) := by decide +kernel
theorem dX4_count_76 : decode cX4_count 76 = .ok (.aload_n 0, 1) := by decide +kernel
theorem dX4_count_77 : decode cX4_count 77 = .ok (.getfield 20, 3) := by decide +kernel
theorem dX4_count_80 : decode cX4_count 80 = .ok (.getfield 79, 3) := by decide +kernel
theorem dX4_count_83 : decode cX4_count 83 = .ok (.ireturn, 1) := by decide +kernel
theorem dX4_count_84 : decode cX4_count 84 = .ok (.aload_n 0, 1) := by decide +kernel
theorem dX4_count_85 : decode cX4_count 85 = .ok (.getfield 20, 3) := by decide +kernel
theorem dX4_count_88 : decode cX4_count 88 = .ok (.getfield 79, 3) := by decide +kernel
theorem dX4_count_91 : decode cX4_count 91 = .ok (.iload_n 2, 1) := by decide +kernel
theorem dX4_count_92 : decode cX4_count 92 = .ok (.invokestatic 197, 3) := by decide +kernel
theorem dX4_count_95 : decode cX4_count 95 = .ok (.isub, 1) := by decide +kernel
theorem dX4_count_96 : decode cX4_count 96 = .ok (.ireturn, 1) := by decide +kernel
theorem dX4_count_97 : decode cX4_count 97 = .ok (.aload_n 0, 1) := by decide +kernel
theorem dX4_count_98 : decode cX4_count 98 = .ok (.getfield 20, 3) := by decide +kernel
theorem dX4_count_101 : decode cX4_count 101 = .ok (.iload_n 2, 1) := by decide +kernel
theorem dX4_count_102 : decode cX4_count 102 = .ok (.invokevirtual 100, 3) := by decide +kernel
theorem dX4_count_105 : decode cX4_count 105 = .ok (.invokestatic 197, 3) := by decide +kernel
theorem dX4_count_108 : decode cX4_count 108 = .ok (.ireturn, 1) := by decide +kernel
theorem dX4_count_109 : decode cX4_count 109 = .ok (.aload_n 0, 1) := by decide +kernel
theorem dX4_count_110 : decode cX4_count 110 = .ok (.getfield 20, 3) := by decide +kernel
theorem dX4_count_113 : decode cX4_count 113 = .ok (.iload_n 2, 1) := by decide +kernel
theorem dX4_count_114 : decode cX4_count 114 = .ok (.invokevirtual 118, 3) := by decide +kernel
theorem dX4_count_117 : decode cX4_count 117 = .ok (.invokestatic 197, 3) := by decide +kernel
theorem dX4_count_120 : decode cX4_count 120 = .ok (.ireturn, 1) := by decide +kernel
theorem dX4_count_121 : decode cX4_count 121 = .ok (.aload_n 0, 1) := by decide +kernel
theorem dX4_count_122 : decode cX4_count 122 = .ok (.getfield 150, 3) := by decide +kernel
theorem dX4_count_125 : decode cX4_count 125 = .ok (.ireturn, 1) := by decide +kernel
theorem dX4_count_126 : decode cX4_count 126 = .ok (.aload_n 0, 1) := by decide +kernel
theorem dX4_count_127 : decode cX4_count 127 = .ok (.getfield 27, 3) := by decide +kernel
theorem dX4_count_130 : decode cX4_count 130 = .ok (.getfield 69, 3) := by decide +kernel
theorem dX4_count_133 : decode cX4_count 133 = .ok (.invokestatic 197, 3) := by decide +kernel
theorem dX4_count_136 : decode cX4_count 136 = .ok (.ireturn, 1) := by decide +kernel
theorem dX4_count_137 : decode cX4_count 137 = .ok (.aload_n 0, 1) := by decide +kernel
theorem dX4_count_138 : decode cX4_count 138 = .ok (.getfield 34, 3) := by decide +kernel
theorem dX4_count_141 : decode cX4_count 141 = .ok (.ireturn, 1) := by decide +kernel
theorem dX4_count_142 : decode cX4_count 142 = .ok (.bipush (-2), 2) := by decide +kernel
theorem dX4_count_144 : decode cX4_count 144 = .ok (.ireturn, 1) := by decide +kernel
theorem dX4_digest_0 : decode cX4_digest 0 = .ok (.ldc2_w 202, 3) := by decide +kernel
theorem dX4_digest_3 : decode cX4_digest 3 = .ok (.lstore_n 1, 1) := by decide +kernel
theorem dX4_digest_4 : decode cX4_digest 4 = .ok (.iconst 0, 1) := by decide +kernel
theorem dX4_digest_5 : decode cX4_digest 5 = .ok (.istore_n 3, 1) := by decide +kernel
theorem dX4_digest_6 : decode cX4_digest 6 = .ok (.iload_n 3, 1) := by decide +kernel
theorem dX4_digest_7 : decode cX4_digest 7 = .ok (.bipush 8, 2) := by decide +kernel
theorem dX4_digest_9 : decode cX4_digest 9 = .ok (.if_icmp .ge 20, 3) := by decide +kernel
theorem dX4_digest_12 : decode cX4_digest 12 = .ok (.lload_n 1, 1) := by decide +kernel
theorem dX4_digest_13 : decode cX4_digest 13 = .ok (.aload_n 0, 1) := by decide +kernel
theorem dX4_digest_14 : decode cX4_digest 14 = .ok (.iload_n 3, 1) := by decide +kernel
theorem dX4_digest_15 : decode cX4_digest 15 = .ok (.invokevirtual 204, 3) := by decide +kernel
theorem dX4_digest_18 : decode cX4_digest 18 = .ok (.i2l, 1) := by decide +kernel
theorem dX4_digest_19 : decode cX4_digest 19 = .ok (.invokestatic 207, 3) := by decide +kernel
theorem dX4_digest_22 : decode cX4_digest 22 = .ok (.lstore_n 1, 1) := by decide +kernel
theorem dX4_digest_23 : decode cX4_digest 23 = .ok (.iinc 3 1, 3) := by decide +kernel
theorem dX4_digest_26 : decode cX4_digest 26 = .ok (.goto (-20), 3) := by decide +kernel
theorem dX4_digest_29 : decode cX4_digest 29 = .ok (.lload_n 1, 1) := by decide +kernel
theorem dX4_digest_30 : decode cX4_digest 30 = .ok (.aload_n 0, 1) := by decide +kernel
theorem dX4_digest_31 : decode cX4_digest 31 = .ok (.invokevirtual 211, 3) := by decide +kernel
theorem dX4_digest_34 : decode cX4_digest 34 = .ok (.i2l, 1) := by decide +kernel
theorem dX4_digest_35 : decode cX4_digest 35 = .ok (.invokestatic 207, 3) := by decide +kernel
theorem dX4_digest_38 : decode cX4_digest 38 = .ok (.lstore_n 1, 1) := by decide +kernel
theorem dX4_digest_39 : decode cX4_digest 39 = .ok (.lload_n 1, 1) := by decide +kernel
theorem dX4_digest_40 : decode cX4_digest 40 = .ok (.aload_n 0, 1) := by decide +kernel
theorem dX4_digest_41 : decode cX4_digest 41 = .ok (.invokevirtual 213, 3) := by decide +kernel
theorem dX4_digest_44 : decode cX4_digest 44 = .ok (.i2l, 1) := by decide +kernel
theorem dX4_digest_45 : decode cX4_digest 45 = .ok (.invokestatic 207, 3) := by decide +kernel
theorem dX4_digest_48 : decode cX4_digest 48 = .ok (.lstore_n 1, 1) := by decide +kernel
theorem dX4_digest_49 : decode cX4_digest 49 = .ok (.aload_n 0, 1) := by decide +kernel
theorem dX4_digest_50 : decode cX4_digest 50 = .ok (.lload_n 1, 1) := by decide +kernel
theorem dX4_digest_51 : decode cX4_digest 51 = .ok (.invokevirtual 216, 3) := by decide +kernel
theorem dX4_digest_54 : decode cX4_digest 54 = .ok (.lstore_n 1, 1) := by decide +kernel
theorem dX4_digest_55 : decode cX4_digest 55 = .ok (.aload_n 0, 1) := by decide +kernel
theorem dX4_digest_56 : decode cX4_digest 56 = .ok (.lload_n 1, 1) := by decide +kernel
theorem dX4_digest_57 : decode cX4_digest 57 = .ok (.invokevirtual 220, 3) := by decide +kernel
theorem dX4_digest_60 : decode cX4_digest 60 = .ok (.lstore_n 1, 1) := by decide +kernel
theorem dX4_digest_61 : decode cX4_digest 61 = .ok (.lload_n 1, 1) := by decide +kernel
theorem dX4_digest_62 : decode cX4_digest 62 = .ok (.aload_n 0, 1) := by decide +kernel
theorem dX4_digest_63 : decode cX4_digest 63 = .ok (.iconst 1, 1) := by decide +kernel
theorem dX4_digest_64 : decode cX4_digest 64 = .ok (.iconst 2, 1) := by decide +kernel
theorem dX4_digest_65 : decode cX4_digest 65 = .ok (.iconst 2, 1) := by decide +kernel
theorem dX4_digest_66 : decode cX4_digest 66 = .ok (.iconst 0, 1) := by decide +kernel
theorem dX4_digest_67 : decode cX4_digest 67 = .ok (.invokevirtual 223, 3) := by decide +kernel
theorem dX4_digest_70 : decode cX4_digest 70 = .ok (.i2l, 1) := by decide +kernel
theorem dX4_digest_71 : decode cX4_digest 71 = .ok (.invokestatic 207, 3) := by decide +kernel
theorem dX4_digest_74 : decode cX4_digest 74 = .ok (.lstore_n 1, 1) := by decide +kernel
theorem dX4_digest_75 : decode cX4_digest 75 = .ok (.lload_n 1, 1) := by decide +kernel
theorem dX4_digest_76 : decode cX4_digest 76 = .ok (.aload_n 0, 1) := by decide +kernel
theorem dX4_digest_77 : decode cX4_digest 77 = .ok (.iconst 1, 1) := by decide +kernel
theorem dX4_digest_78 : decode cX4_digest 78 = .ok (.iconst 2, 1) := by decide +kernel
theorem dX4_digest_79 : decode cX4_digest 79 = .ok (.iconst 2, 1) := by decide +kernel
theorem dX4_digest_80 : decode cX4_digest 80 = .ok (.iconst 1, 1) := by decide +kernel
theorem dX4_digest_81 : decode cX4_digest 81 = .ok (.invokevirtual 223, 3) := by decide +kernel
theorem dX4_digest_84 : decode cX4_digest 84 = .ok (.i2l, 1) := by decide +kernel
theorem dX4_digest_85 : decode cX4_digest 85 = .ok (.invokestatic 207, 3) := by decide +kernel
theorem dX4_digest_88 : decode cX4_digest 88 = .ok (.lstore_n 1, 1) := by decide +kernel
theorem dX4_digest_89 : decode cX4_digest 89 = .ok (.iconst 0, 1) := by decide +kernel
theorem dX4_digest_90 : decode cX4_digest 90 = .ok (.istore_n 3, 1) := by decide +kernel
theorem dX4_digest_91 : decode cX4_digest 91 = .ok (.iload_n 3, 1) := by decide +kernel
theorem dX4_digest_92 : decode cX4_digest 92 = .ok (.iconst 2, 1) := by decide +kernel
theorem dX4_digest_93 : decode cX4_digest 93 = .ok (.if_icmp .gt 20, 3) := by decide +kernel
theorem dX4_digest_96 : decode cX4_digest 96 = .ok (.lload_n 1, 1) := by decide +kernel
theorem dX4_digest_97 : decode cX4_digest 97 = .ok (.aload_n 0, 1) := by decide +kernel
theorem dX4_digest_98 : decode cX4_digest 98 = .ok (.iload_n 3, 1) := by decide +kernel
theorem dX4_digest_99 : decode cX4_digest 99 = .ok (.invokevirtual 227, 3) := by decide +kernel
theorem dX4_digest_102 : decode cX4_digest 102 = .ok (.i2l, 1) := by decide +kernel
theorem dX4_digest_103 : decode cX4_digest 103 = .ok (.invokestatic 207, 3) := by decide +kernel
theorem dX4_digest_106 : decode cX4_digest 106 = .ok (.lstore_n 1, 1) := by decide +kernel
theorem dX4_digest_107 : decode cX4_digest 107 = .ok (.iinc 3 1, 3) := by decide +kernel
theorem dX4_digest_110 : decode cX4_digest 110 = .ok (.goto (-19), 3) := by decide +kernel
theorem dX4_digest_113 : decode cX4_digest 113 = .ok (.iconst 0, 1) := by decide +kernel
theorem dX4_digest_114 : decode cX4_digest 114 = .ok (.istore_n 3, 1) := by decide +kernel
theorem dX4_digest_115 : decode cX4_digest 115 = .ok (.iload_n 3, 1) := by decide +kernel
theorem dX4_digest_116 : decode cX4_digest 116 = .ok (.iconst 4, 1) := by decide +kernel
theorem dX4_digest_117 : decode cX4_digest 117 = .ok (.if_icmp .ge 22, 3) := by decide +kernel
theorem dX4_digest_120 : decode cX4_digest 120 = .ok (.lload_n 1, 1) := by decide +kernel
theorem dX4_digest_121 : decode cX4_digest 121 = .ok (.aload_n 0, 1) := by decide +kernel
theorem dX4_digest_122 : decode cX4_digest 122 = .ok (.iconst 0, 1) := by decide +kernel
theorem dX4_digest_123 : decode cX4_digest 123 = .ok (.iconst 1, 1) := by decide +kernel
theorem dX4_digest_124 : decode cX4_digest 124 = .ok (.iload_n 3, 1) := by decide +kernel
theorem dX4_digest_125 : decode cX4_digest 125 = .ok (.invokevirtual 230, 3) := by decide +kernel
theorem dX4_digest_128 : decode cX4_digest 128 = .ok (.i2l, 1) := by decide +kernel
theorem dX4_digest_129 : decode cX4_digest 129 = .ok (.invokestatic 207, 3) := by decide +kernel
theorem dX4_digest_132 : decode cX4_digest 132 = .ok (.lstore_n 1, 1) := by decide +kernel
theorem dX4_digest_133 : decode cX4_digest 133 = .ok (.iinc 3 1, 3) := by decide +kernel
theorem dX4_digest_136 : decode cX4_digest 136 = .ok (.goto (-21), 3) := by decide +kernel
theorem dX4_digest_139 : decode cX4_digest 139 = .ok (.lload_n 1, 1) := by decide +kernel
theorem dX4_digest_140 : decode cX4_digest 140 = .ok (.aload_n 0, 1) := by decide +kernel
theorem dX4_digest_141 : decode cX4_digest 141 = .ok (.invokevirtual 233, 3) := by decide +kernel
theorem dX4_digest_144 : decode cX4_digest 144 = .ok (.i2l, 1) := by decide +kernel
theorem dX4_digest_145 : decode cX4_digest 145 = .ok (.invokestatic 207, 3) := by decide +kernel
theorem dX4_digest_148 : decode cX4_digest 148 = .ok (.lstore_n 1, 1) := by decide +kernel
theorem dX4_digest_149 : decode cX4_digest 149 = .ok (.lload_n 1, 1) := by decide +kernel
theorem dX4_digest_150 : decode cX4_digest 150 = .ok (.aload_n 0, 1) := by decide +kernel
theorem dX4_digest_151 : decode cX4_digest 151 = .ok (.bipush 7, 2) := by decide +kernel
theorem dX4_digest_153 : decode cX4_digest 153 = .ok (.iconst 3, 1) := by decide +kernel
theorem dX4_digest_154 : decode cX4_digest 154 = .ok (.iconst 0, 1) := by decide +kernel
theorem dX4_digest_155 : decode cX4_digest 155 = .ok (.invokevirtual 236, 3) := by decide +kernel
theorem dX4_digest_158 : decode cX4_digest 158 = .ok (.i2l, 1) := by decide +kernel
theorem dX4_digest_159 : decode cX4_digest 159 = .ok (.invokestatic 207, 3) := by decide +kernel
theorem dX4_digest_162 : decode cX4_digest 162 = .ok (.lstore_n 1, 1) := by decide +kernel
theorem dX4_digest_163 : decode cX4_digest 163 = .ok (.lload_n 1, 1) := by decide +kernel
theorem dX4_digest_164 : decode cX4_digest 164 = .ok (.aload_n 0, 1) := by decide +kernel
theorem dX4_digest_165 : decode cX4_digest 165 = .ok (.bipush 7, 2) := by decide +kernel
theorem dX4_digest_167 : decode cX4_digest 167 = .ok (.iconst 3, 1) := by decide +kernel
theorem dX4_digest_168 : decode cX4_digest 168 = .ok (.iconst 1, 1) := by decide +kernel
theorem dX4_digest_169 : decode cX4_digest 169 = .ok (.invokevirtual 236, 3) := by decide +kernel
theorem dX4_digest_172 : decode cX4_digest 172 = .ok (.i2l, 1) := by decide +kernel
theorem dX4_digest_173 : decode cX4_digest 173 = .ok (.invokestatic 207, 3) := by decide +kernel
theorem dX4_digest_176 : decode cX4_digest 176 = .ok (.lreturn, 1) := by decide +kernel
theorem dX4_withDeeds_0 : decode cX4_withDeeds 0 = .ok (.lload_n 1, 1) := by decide +kernel
theorem dX4_withDeeds_1 : decode cX4_withDeeds 1 = .ok (.lstore_n 3, 1) := by decide +kernel
theorem dX4_withDeeds_2 : decode cX4_withDeeds 2 = .ok (.iconst 0, 1) := by decide +kernel
theorem dX4_withDeeds_3 : decode cX4_withDeeds 3 = .ok (.istore 5, 2) := by decide +kernel
theorem dX4_withDeeds_5 : decode cX4_withDeeds 5 = .ok (.iload 5, 2) := by decide +kernel
theorem dX4_withDeeds_7 : decode cX4_withDeeds 7 = .ok (.aload_n 0, 1) := by decide +kernel
theorem dX4_withDeeds_8 : decode cX4_withDeeds 8 = .ok (.getfield 27, 3) := by decide +kernel
theorem dX4_withDeeds_11 : decode cX4_withDeeds 11 = .ok (.getfield 59, 3) := by decide +kernel
theorem dX4_withDeeds_14 : decode cX4_withDeeds 14 = .ok (.if_icmp .ge 50, 3) := by decide +kernel
theorem dX4_withDeeds_17 : decode cX4_withDeeds 17 = .ok (.iconst 0, 1) := by decide +kernel
theorem dX4_withDeeds_18 : decode cX4_withDeeds 18 = .ok (.istore 6, 2) := by decide +kernel
theorem dX4_withDeeds_20 : decode cX4_withDeeds 20 = .ok (.iload 6, 2) := by decide +kernel
theorem dX4_withDeeds_22 : decode cX4_withDeeds 22 = .ok (.iconst 3, 1) := by decide +kernel
theorem dX4_withDeeds_23 : decode cX4_withDeeds 23 = .ok (.if_icmp .ge 23, 3) := by decide +kernel
theorem dX4_withDeeds_26 : decode cX4_withDeeds 26 = .ok (.lload_n 3, 1) := by decide +kernel
theorem dX4_withDeeds_27 : decode cX4_withDeeds 27 = .ok (.aload_n 0, 1) := by decide +kernel
theorem dX4_withDeeds_28 : decode cX4_withDeeds 28 = .ok (.iload 5, 2) := by decide +kernel
theorem dX4_withDeeds_30 : decode cX4_withDeeds 30 = .ok (.iload 6, 2) := by decide +kernel
theorem dX4_withDeeds_32 : decode cX4_withDeeds 32 = .ok (.invokevirtual 239, 3) := by decide +kernel
theorem dX4_withDeeds_35 : decode cX4_withDeeds 35 = .ok (.i2l, 1) := by decide +kernel
theorem dX4_withDeeds_36 : decode cX4_withDeeds 36 = .ok (.invokestatic 207, 3) := by decide +kernel
theorem dX4_withDeeds_39 : decode cX4_withDeeds 39 = .ok (.lstore_n 3, 1) := by decide +kernel
theorem dX4_withDeeds_40 : decode cX4_withDeeds 40 = .ok (.iinc 6 1, 3) := by decide +kernel
theorem dX4_withDeeds_43 : decode cX4_withDeeds 43 = .ok (.goto (-23), 3) := by decide +kernel
theorem dX4_withDeeds_46 : decode cX4_withDeeds 46 = .ok (.lload_n 3, 1) := by decide +kernel
theorem dX4_withDeeds_47 : decode cX4_withDeeds 47 = .ok (.aload_n 0, 1) := by decide +kernel
theorem dX4_withDeeds_48 : decode cX4_withDeeds 48 = .ok (.iload 5, 2) := by decide +kernel
theorem dX4_withDeeds_50 : decode cX4_withDeeds 50 = .ok (.invokevirtual 242, 3) := by decide +kernel
theorem dX4_withDeeds_53 : decode cX4_withDeeds 53 = .ok (.i2l, 1) := by decide +kernel
theorem dX4_withDeeds_54 : decode cX4_withDeeds 54 = .ok (.invokestatic 207, 3) := by decide +kernel
theorem dX4_withDeeds_57 : decode cX4_withDeeds 57 = .ok (.lstore_n 3, 1) := by decide +kernel
theorem dX4_withDeeds_58 : decode cX4_withDeeds 58 = .ok (.iinc 5 1, 3) := by decide +kernel
theorem dX4_withDeeds_61 : decode cX4_withDeeds 61 = .ok (.goto (-56), 3) := by decide +kernel
theorem dX4_withDeeds_64 : decode cX4_withDeeds 64 = .ok (.lload_n 3, 1) := by decide +kernel
theorem dX4_withDeeds_65 : decode cX4_withDeeds 65 = .ok (.lreturn, 1) := by decide +kernel
theorem dX4_withUndoings_0 : decode cX4_withUndoings 0 = .ok (.lload_n 1, 1) := by decide +kernel
theorem dX4_withUndoings_1 : decode cX4_withUndoings 1 = .ok (.lstore_n 3, 1) := by decide +kernel
theorem dX4_withUndoings_2 : decode cX4_withUndoings 2 = .ok (.iconst 0, 1) := by decide +kernel
theorem dX4_withUndoings_3 : decode cX4_withUndoings 3 = .ok (.istore 5, 2) := by decide +kernel
theorem dX4_withUndoings_5 : decode cX4_withUndoings 5 = .ok (.iload 5, 2) := by decide +kernel
theorem dX4_withUndoings_7 : decode cX4_withUndoings 7 = .ok (.aload_n 0, 1) := by decide +kernel
theorem dX4_withUndoings_8 : decode cX4_withUndoings 8 = .ok (.getfield 20, 3) := by decide +kernel
theorem dX4_withUndoings_11 : decode cX4_withUndoings 11 = .ok (.getfield 79, 3) := by decide +kernel
theorem dX4_withUndoings_14 : decode cX4_withUndoings 14 = .ok (.if_icmp .ge 59, 3) := by decide +kernel
theorem dX4_withUndoings_17 : decode cX4_withUndoings 17 = .ok (.lload_n 3, 1) := by decide +kernel
theorem dX4_withUndoings_18 : decode cX4_withUndoings 18 = .ok (.aload_n 0, 1) := by decide +kernel
theorem dX4_withUndoings_19 : decode cX4_withUndoings 19 = .ok (.iload 5, 2) := by decide +kernel
theorem dX4_withUndoings_21 : decode cX4_withUndoings 21 = .ok (.invokevirtual 245, 3) := by decide +kernel
theorem dX4_withUndoings_24 : decode cX4_withUndoings 24 = .ok (.i2l, 1) := by decide +kernel
theorem dX4_withUndoings_25 : decode cX4_withUndoings 25 = .ok (.invokestatic 207, 3) := by decide +kernel
theorem dX4_withUndoings_28 : decode cX4_withUndoings 28 = .ok (.lstore_n 3, 1) := by decide +kernel
theorem dX4_withUndoings_29 : decode cX4_withUndoings 29 = .ok (.lload_n 3, 1) := by decide +kernel
theorem dX4_withUndoings_30 : decode cX4_withUndoings 30 = .ok (.aload_n 0, 1) := by decide +kernel
theorem dX4_withUndoings_31 : decode cX4_withUndoings 31 = .ok (.iload 5, 2) := by decide +kernel
theorem dX4_withUndoings_33 : decode cX4_withUndoings 33 = .ok (.invokevirtual 248, 3) := by decide +kernel
theorem dX4_withUndoings_36 : decode cX4_withUndoings 36 = .ok (.i2l, 1) := by decide +kernel
theorem dX4_withUndoings_37 : decode cX4_withUndoings 37 = .ok (.invokestatic 207, 3) := by decide +kernel
theorem dX4_withUndoings_40 : decode cX4_withUndoings 40 = .ok (.lstore_n 3, 1) := by decide +kernel
theorem dX4_withUndoings_41 : decode cX4_withUndoings 41 = .ok (.lload_n 3, 1) := by decide +kernel
theorem dX4_withUndoings_42 : decode cX4_withUndoings 42 = .ok (.aload_n 0, 1) := by decide +kernel
theorem dX4_withUndoings_43 : decode cX4_withUndoings 43 = .ok (.iload 5, 2) := by decide +kernel
theorem dX4_withUndoings_45 : decode cX4_withUndoings 45 = .ok (.iconst 0, 1) := by decide +kernel
theorem dX4_withUndoings_46 : decode cX4_withUndoings 46 = .ok (.invokevirtual 251, 3) := by decide +kernel
theorem dX4_withUndoings_49 : decode cX4_withUndoings 49 = .ok (.i2l, 1) := by decide +kernel
theorem dX4_withUndoings_50 : decode cX4_withUndoings 50 = .ok (.invokestatic 207, 3) := by decide +kernel
theorem dX4_withUndoings_53 : decode cX4_withUndoings 53 = .ok (.lstore_n 3, 1) := by decide +kernel
theorem dX4_withUndoings_54 : decode cX4_withUndoings 54 = .ok (.lload_n 3, 1) := by decide +kernel
theorem dX4_withUndoings_55 : decode cX4_withUndoings 55 = .ok (.aload_n 0, 1) := by decide +kernel
theorem dX4_withUndoings_56 : decode cX4_withUndoings 56 = .ok (.iload 5, 2) := by decide +kernel
theorem dX4_withUndoings_58 : decode cX4_withUndoings 58 = .ok (.iconst 1, 1) := by decide +kernel
theorem dX4_withUndoings_59 : decode cX4_withUndoings 59 = .ok (.invokevirtual 251, 3) := by decide +kernel
theorem dX4_withUndoings_62 : decode cX4_withUndoings 62 = .ok (.i2l, 1) := by decide +kernel
theorem dX4_withUndoings_63 : decode cX4_withUndoings 63 = .ok (.invokestatic 207, 3) := by decide +kernel
theorem dX4_withUndoings_66 : decode cX4_withUndoings 66 = .ok (.lstore_n 3, 1) := by decide +kernel
theorem dX4_withUndoings_67 : decode cX4_withUndoings 67 = .ok (.iinc 5 1, 3) := by decide +kernel
theorem dX4_withUndoings_70 : decode cX4_withUndoings 70 = .ok (.goto (-65), 3) := by decide +kernel
theorem dX4_withUndoings_73 : decode cX4_withUndoings 73 = .ok (.iconst 0, 1) := by decide +kernel
theorem dX4_withUndoings_74 : decode cX4_withUndoings 74 = .ok (.istore 5, 2) := by decide +kernel
theorem dX4_withUndoings_76 : decode cX4_withUndoings 76 = .ok (.iload 5, 2) := by decide +kernel
theorem dX4_withUndoings_78 : decode cX4_withUndoings 78 = .ok (.aload_n 0, 1) := by decide +kernel
theorem dX4_withUndoings_79 : decode cX4_withUndoings 79 = .ok (.getfield 20, 3) := by decide +kernel
theorem dX4_withUndoings_82 : decode cX4_withUndoings 82 = .ok (.getfield 79, 3) := by decide +kernel
theorem dX4_withUndoings_85 : decode cX4_withUndoings 85 = .ok (.if_icmp .gt 35, 3) := by decide +kernel
theorem dX4_withUndoings_88 : decode cX4_withUndoings 88 = .ok (.lload_n 3, 1) := by decide +kernel
theorem dX4_withUndoings_89 : decode cX4_withUndoings 89 = .ok (.aload_n 0, 1) := by decide +kernel
theorem dX4_withUndoings_90 : decode cX4_withUndoings 90 = .ok (.iload 5, 2) := by decide +kernel
theorem dX4_withUndoings_92 : decode cX4_withUndoings 92 = .ok (.iconst 0, 1) := by decide +kernel
theorem dX4_withUndoings_93 : decode cX4_withUndoings 93 = .ok (.invokevirtual 254, 3) := by decide +kernel
theorem dX4_withUndoings_96 : decode cX4_withUndoings 96 = .ok (.i2l, 1) := by decide +kernel
theorem dX4_withUndoings_97 : decode cX4_withUndoings 97 = .ok (.invokestatic 207, 3) := by decide +kernel
theorem dX4_withUndoings_100 : decode cX4_withUndoings 100 = .ok (.lstore_n 3, 1) := by decide +kernel
theorem dX4_withUndoings_101 : decode cX4_withUndoings 101 = .ok (.lload_n 3, 1) := by decide +kernel
theorem dX4_withUndoings_102 : decode cX4_withUndoings 102 = .ok (.aload_n 0, 1) := by decide +kernel
theorem dX4_withUndoings_103 : decode cX4_withUndoings 103 = .ok (.iload 5, 2) := by decide +kernel
theorem dX4_withUndoings_105 : decode cX4_withUndoings 105 = .ok (.iconst 1, 1) := by decide +kernel
theorem dX4_withUndoings_106 : decode cX4_withUndoings 106 = .ok (.invokevirtual 254, 3) := by decide +kernel
theorem dX4_withUndoings_109 : decode cX4_withUndoings 109 = .ok (.i2l, 1) := by decide +kernel
theorem dX4_withUndoings_110 : decode cX4_withUndoings 110 = .ok (.invokestatic 207, 3) := by decide +kernel
theorem dX4_withUndoings_113 : decode cX4_withUndoings 113 = .ok (.lstore_n 3, 1) := by decide +kernel
theorem dX4_withUndoings_114 : decode cX4_withUndoings 114 = .ok (.iinc 5 1, 3) := by decide +kernel
theorem dX4_withUndoings_117 : decode cX4_withUndoings 117 = .ok (.goto (-41), 3) := by decide +kernel
theorem dX4_withUndoings_120 : decode cX4_withUndoings 120 = .ok (.lload_n 3, 1) := by decide +kernel
theorem dX4_withUndoings_121 : decode cX4_withUndoings 121 = .ok (.lreturn, 1) := by decide +kernel
theorem dX4_found_0 : decode cX4_found 0 = .ok (.aload_n 0, 1) := by decide +kernel
theorem dX4_found_1 : decode cX4_found 1 = .ok (.iload_n 1, 1) := by decide +kernel
theorem dX4_found_2 : decode cX4_found 2 = .ok (.putfield 34, 3) := by decide +kernel
theorem dX4_found_5 : decode cX4_found 5 = .ok (.bipush (-10), 2) := by decide +kernel
theorem dX4_found_7 : decode cX4_found 7 = .ok (.iload_n 1, 1) := by decide +kernel
theorem dX4_found_8 : decode cX4_found 8 = .ok (.isub, 1) := by decide +kernel
theorem dX4_found_9 : decode cX4_found 9 = .ok (.ireturn, 1) := by decide +kernel
theorem dX4_mixed_0 : decode cX4_mixed 0 = .ok (.ldc2_w 257, 3) := by decide +kernel
theorem dX4_mixed_3 : decode cX4_mixed 3 = .ok (.lload_n 0, 1) := by decide +kernel
theorem dX4_mixed_4 : decode cX4_mixed 4 = .ok (.lmul, 1) := by decide +kernel
theorem dX4_mixed_5 : decode cX4_mixed 5 = .ok (.lload_n 2, 1) := by decide +kernel
theorem dX4_mixed_6 : decode cX4_mixed 6 = .ok (.ladd, 1) := by decide +kernel
theorem dX4_mixed_7 : decode cX4_mixed 7 = .ok (.lreturn, 1) := by decide +kernel
theorem dX4_isBelow_0 : decode cX4_isBelow 0 = .ok (.iload_n 0, 1) := by decide +kernel
theorem dX4_isBelow_1 : decode cX4_isBelow 1 = .ok (.ifCond .lt 12, 3) := by decide +kernel
theorem dX4_isBelow_4 : decode cX4_isBelow 4 = .ok (.iload_n 0, 1) := by decide +kernel
theorem dX4_isBelow_5 : decode cX4_isBelow 5 = .ok (.iload_n 1, 1) := by decide +kernel
theorem dX4_isBelow_6 : decode cX4_isBelow 6 = .ok (.if_icmp .ge 7, 3) := by decide +kernel
theorem dX4_isBelow_9 : decode cX4_isBelow 9 = .ok (.iconst 1, 1) := by decide +kernel
theorem dX4_isBelow_10 : decode cX4_isBelow 10 = .ok (.goto 4, 3) := by decide +kernel
theorem dX4_isBelow_13 : decode cX4_isBelow 13 = .ok (.iconst 0, 1) := by decide +kernel
theorem dX4_isBelow_14 : decode cX4_isBelow 14 = .ok (.ireturn, 1) := by decide +kernel
theorem dX4_bitOf_0 : decode cX4_bitOf 0 = .ok (.iload_n 0, 1) := by decide +kernel
theorem dX4_bitOf_1 : decode cX4_bitOf 1 = .ok (.iload_n 1, 1) := by decide +kernel
theorem dX4_bitOf_2 : decode cX4_bitOf 2 = .ok (.ishr, 1) := by decide +kernel
theorem dX4_bitOf_3 : decode cX4_bitOf 3 = .ok (.iconst 1, 1) := by decide +kernel
theorem dX4_bitOf_4 : decode cX4_bitOf 4 = .ok (.iand, 1) := by decide +kernel
theorem dX4_bitOf_5 : decode cX4_bitOf 5 = .ok (.ireturn, 1) := by decide +kernel
theorem dX4_firstBits_0 : decode cX4_firstBits 0 = .ok (.iconst 1, 1) := by decide +kernel
theorem dX4_firstBits_1 : decode cX4_firstBits 1 = .ok (.iload_n 0, 1) := by decide +kernel
theorem dX4_firstBits_2 : decode cX4_firstBits 2 = .ok (.ishl, 1) := by decide +kernel
theorem dX4_firstBits_3 : decode cX4_firstBits 3 = .ok (.iconst 1, 1) := by decide +kernel
theorem dX4_firstBits_4 : decode cX4_firstBits 4 = .ok (.isub, 1) := by decide +kernel
theorem dX4_firstBits_5 : decode cX4_firstBits 5 = .ok (.ireturn, 1) := by decide +kernel
theorem dX4_leastOf_0 : decode cX4_leastOf 0 = .ok (.iconst 0, 1) := by decide +kernel
theorem dX4_leastOf_1 : decode cX4_leastOf 1 = .ok (.istore_n 1, 1) := by decide +kernel
theorem dX4_leastOf_2 : decode cX4_leastOf 2 = .ok (.iload_n 1, 1) := by decide +kernel
theorem dX4_leastOf_3 : decode cX4_leastOf 3 = .ok (.bipush 12, 2) := by decide +kernel
theorem dX4_leastOf_5 : decode cX4_leastOf 5 = .ok (.if_icmp .ge 20, 3) := by decide +kernel
theorem dX4_leastOf_8 : decode cX4_leastOf 8 = .ok (.iload_n 0, 1) := by decide +kernel
theorem dX4_leastOf_9 : decode cX4_leastOf 9 = .ok (.iload_n 1, 1) := by decide +kernel
theorem dX4_leastOf_10 : decode cX4_leastOf 10 = .ok (.invokestatic 72, 3) := by decide +kernel
theorem dX4_leastOf_13 : decode cX4_leastOf 13 = .ok (.iconst 1, 1) := by decide +kernel
theorem dX4_leastOf_14 : decode cX4_leastOf 14 = .ok (.if_icmp .ne 5, 3) := by decide +kernel
theorem dX4_leastOf_17 : decode cX4_leastOf 17 = .ok (.iload_n 1, 1) := by decide +kernel
theorem dX4_leastOf_18 : decode cX4_leastOf 18 = .ok (.ireturn, 1) := by decide +kernel
theorem dX4_leastOf_19 : decode cX4_leastOf 19 = .ok (.iinc 1 1, 3) := by decide +kernel
theorem dX4_leastOf_22 : decode cX4_leastOf 22 = .ok (.goto (-20), 3) := by decide +kernel
theorem dX4_leastOf_25 : decode cX4_leastOf 25 = .ok (.iconst (-1), 1) := by decide +kernel
theorem dX4_leastOf_26 : decode cX4_leastOf 26 = .ok (.ireturn, 1) := by decide +kernel
theorem dJ6_bitCount_0f7a4_0 : decode cJ6_bitCount_0f7a4 0 = .ok (.iload_n 0, 1) := by decide +kernel
theorem dJ6_bitCount_0f7a4_1 : decode cJ6_bitCount_0f7a4 1 = .ok (.iload_n 0, 1) := by decide +kernel
theorem dJ6_bitCount_0f7a4_2 : decode cJ6_bitCount_0f7a4 2 = .ok (.iconst 1, 1) := by decide +kernel
theorem dJ6_bitCount_0f7a4_3 : decode cJ6_bitCount_0f7a4 3 = .ok (.iushr, 1) := by decide +kernel
theorem dJ6_bitCount_0f7a4_4 : decode cJ6_bitCount_0f7a4 4 = .ok (.ldc_w 265, 3) := by decide +kernel
theorem dJ6_bitCount_0f7a4_7 : decode cJ6_bitCount_0f7a4 7 = .ok (.iand, 1) := by decide +kernel
theorem dJ6_bitCount_0f7a4_8 : decode cJ6_bitCount_0f7a4 8 = .ok (.isub, 1) := by decide +kernel
theorem dJ6_bitCount_0f7a4_9 : decode cJ6_bitCount_0f7a4 9 = .ok (.istore_n 0, 1) := by decide +kernel
theorem dJ6_bitCount_0f7a4_10 : decode cJ6_bitCount_0f7a4 10 = .ok (.iload_n 0, 1) := by decide +kernel
theorem dJ6_bitCount_0f7a4_11 : decode cJ6_bitCount_0f7a4 11 = .ok (.ldc_w 266, 3) := by decide +kernel
theorem dJ6_bitCount_0f7a4_14 : decode cJ6_bitCount_0f7a4 14 = .ok (.iand, 1) := by decide +kernel
theorem dJ6_bitCount_0f7a4_15 : decode cJ6_bitCount_0f7a4 15 = .ok (.iload_n 0, 1) := by decide +kernel
theorem dJ6_bitCount_0f7a4_16 : decode cJ6_bitCount_0f7a4 16 = .ok (.iconst 2, 1) := by decide +kernel
theorem dJ6_bitCount_0f7a4_17 : decode cJ6_bitCount_0f7a4 17 = .ok (.iushr, 1) := by decide +kernel
theorem dJ6_bitCount_0f7a4_18 : decode cJ6_bitCount_0f7a4 18 = .ok (.ldc_w 266, 3) := by decide +kernel
theorem dJ6_bitCount_0f7a4_21 : decode cJ6_bitCount_0f7a4 21 = .ok (.iand, 1) := by decide +kernel
theorem dJ6_bitCount_0f7a4_22 : decode cJ6_bitCount_0f7a4 22 = .ok (.iadd, 1) := by decide +kernel
theorem dJ6_bitCount_0f7a4_23 : decode cJ6_bitCount_0f7a4 23 = .ok (.istore_n 0, 1) := by decide +kernel
theorem dJ6_bitCount_0f7a4_24 : decode cJ6_bitCount_0f7a4 24 = .ok (.iload_n 0, 1) := by decide +kernel
theorem dJ6_bitCount_0f7a4_25 : decode cJ6_bitCount_0f7a4 25 = .ok (.iload_n 0, 1) := by decide +kernel
theorem dJ6_bitCount_0f7a4_26 : decode cJ6_bitCount_0f7a4 26 = .ok (.iconst 4, 1) := by decide +kernel
theorem dJ6_bitCount_0f7a4_27 : decode cJ6_bitCount_0f7a4 27 = .ok (.iushr, 1) := by decide +kernel
theorem dJ6_bitCount_0f7a4_28 : decode cJ6_bitCount_0f7a4 28 = .ok (.iadd, 1) := by decide +kernel
theorem dJ6_bitCount_0f7a4_29 : decode cJ6_bitCount_0f7a4 29 = .ok (.ldc_w 267, 3) := by decide +kernel
theorem dJ6_bitCount_0f7a4_32 : decode cJ6_bitCount_0f7a4 32 = .ok (.iand, 1) := by decide +kernel
theorem dJ6_bitCount_0f7a4_33 : decode cJ6_bitCount_0f7a4 33 = .ok (.istore_n 0, 1) := by decide +kernel
theorem dJ6_bitCount_0f7a4_34 : decode cJ6_bitCount_0f7a4 34 = .ok (.iload_n 0, 1) := by decide +kernel
theorem dJ6_bitCount_0f7a4_35 : decode cJ6_bitCount_0f7a4 35 = .ok (.iload_n 0, 1) := by decide +kernel
theorem dJ6_bitCount_0f7a4_36 : decode cJ6_bitCount_0f7a4 36 = .ok (.bipush 8, 2) := by decide +kernel
theorem dJ6_bitCount_0f7a4_38 : decode cJ6_bitCount_0f7a4 38 = .ok (.iushr, 1) := by decide +kernel
theorem dJ6_bitCount_0f7a4_39 : decode cJ6_bitCount_0f7a4 39 = .ok (.iadd, 1) := by decide +kernel
theorem dJ6_bitCount_0f7a4_40 : decode cJ6_bitCount_0f7a4 40 = .ok (.istore_n 0, 1) := by decide +kernel
theorem dJ6_bitCount_0f7a4_41 : decode cJ6_bitCount_0f7a4 41 = .ok (.iload_n 0, 1) := by decide +kernel
theorem dJ6_bitCount_0f7a4_42 : decode cJ6_bitCount_0f7a4 42 = .ok (.iload_n 0, 1) := by decide +kernel
theorem dJ6_bitCount_0f7a4_43 : decode cJ6_bitCount_0f7a4 43 = .ok (.bipush 16, 2) := by decide +kernel
theorem dJ6_bitCount_0f7a4_45 : decode cJ6_bitCount_0f7a4 45 = .ok (.iushr, 1) := by decide +kernel
theorem dJ6_bitCount_0f7a4_46 : decode cJ6_bitCount_0f7a4 46 = .ok (.iadd, 1) := by decide +kernel
theorem dJ6_bitCount_0f7a4_47 : decode cJ6_bitCount_0f7a4 47 = .ok (.istore_n 0, 1) := by decide +kernel
theorem dJ6_bitCount_0f7a4_48 : decode cJ6_bitCount_0f7a4 48 = .ok (.iload_n 0, 1) := by decide +kernel
theorem dJ6_bitCount_0f7a4_49 : decode cJ6_bitCount_0f7a4 49 = .ok (.bipush 63, 2) := by decide +kernel
theorem dJ6_bitCount_0f7a4_51 : decode cJ6_bitCount_0f7a4 51 = .ok (.iand, 1) := by decide +kernel
theorem dJ6_bitCount_0f7a4_52 : decode cJ6_bitCount_0f7a4 52 = .ok (.ireturn, 1) := by decide +kernel
theorem dJ9_min_7cf53_0 : decode cJ9_min_7cf53 0 = .ok (.iload_n 0, 1) := by decide +kernel
theorem dJ9_min_7cf53_1 : decode cJ9_min_7cf53 1 = .ok (.iload_n 1, 1) := by decide +kernel
theorem dJ9_min_7cf53_2 : decode cJ9_min_7cf53 2 = .ok (.if_icmp .gt 7, 3) := by decide +kernel
theorem dJ9_min_7cf53_5 : decode cJ9_min_7cf53 5 = .ok (.iload_n 0, 1) := by decide +kernel
theorem dJ9_min_7cf53_6 : decode cJ9_min_7cf53 6 = .ok (.goto 4, 3) := by decide +kernel
theorem dJ9_min_7cf53_9 : decode cJ9_min_7cf53 9 = .ok (.iload_n 1, 1) := by decide +kernel
theorem dJ9_min_7cf53_10 : decode cJ9_min_7cf53 10 = .ok (.ireturn, 1) := by decide +kernel
