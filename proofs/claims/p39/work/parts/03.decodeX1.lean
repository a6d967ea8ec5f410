theorem dX1_init_0 : decode cX1_init 0 = .ok (.aload_n 0, 1) := by decide +kernel
theorem dX1_init_1 : decode cX1_init 1 = .ok (.invokespecial 1, 3) := by decide +kernel
theorem dX1_init_4 : decode cX1_init 4 = .ok (.aload_n 0, 1) := by decide +kernel
theorem dX1_init_5 : decode cX1_init 5 = .ok (.iconst 0, 1) := by decide +kernel
theorem dX1_init_6 : decode cX1_init 6 = .ok (.anewarray 7, 3) := by decide +kernel
theorem dX1_init_9 : decode cX1_init 9 = .ok (.putfield 9, 3) := by decide +kernel
theorem dX1_init_12 : decode cX1_init 12 = .ok (.aload_n 0, 1) := by decide +kernel
theorem dX1_init_13 : decode cX1_init 13 = .ok (.bipush 10, 2) := by decide +kernel
theorem dX1_init_15 : decode cX1_init 15 = .ok (.newarray .int, 2) := by decide +kernel
theorem dX1_init_17 : decode cX1_init 17 = .ok (.dup, 1) := by decide +kernel
theorem dX1_init_18 : decode cX1_init 18 = .ok (.iconst 0, 1) := by decide +kernel
theorem dX1_init_19 : decode cX1_init 19 = .ok (.iconst 0, 1) := by decide +kernel
theorem dX1_init_20 : decode cX1_init 20 = .ok (.iastore, 1) := by decide +kernel
theorem dX1_init_21 : decode cX1_init 21 = .ok (.dup, 1) := by decide +kernel
theorem dX1_init_22 : decode cX1_init 22 = .ok (.iconst 1, 1) := by decide +kernel
theorem dX1_init_23 : decode cX1_init 23 = .ok (.iconst 1, 1) := by decide +kernel
theorem dX1_init_24 : decode cX1_init 24 = .ok (.iastore, 1) := by decide +kernel
theorem dX1_init_25 : decode cX1_init 25 = .ok (.dup, 1) := by decide +kernel
theorem dX1_init_26 : decode cX1_init 26 = .ok (.iconst 2, 1) := by decide +kernel
theorem dX1_init_27 : decode cX1_init 27 = .ok (.iconst 2, 1) := by decide +kernel
theorem dX1_init_28 : decode cX1_init 28 = .ok (.iastore, 1) := by decide +kernel
theorem dX1_init_29 : decode cX1_init 29 = .ok (.dup, 1) := by decide +kernel
theorem dX1_init_30 : decode cX1_init 30 = .ok (.iconst 3, 1) := by decide +kernel
theorem dX1_init_31 : decode cX1_init 31 = .ok (.iconst 3, 1) := by decide +kernel
theorem dX1_init_32 : decode cX1_init 32 = .ok (.iastore, 1) := by decide +kernel
theorem dX1_init_33 : decode cX1_init 33 = .ok (.dup, 1) := by decide +kernel
theorem dX1_init_34 : decode cX1_init 34 = .ok (.iconst 4, 1) := by decide +kernel
theorem dX1_init_35 : decode cX1_init 35 = .ok (.iconst 4, 1) := by decide +kernel
theorem dX1_init_36 : decode cX1_init 36 = .ok (.iastore, 1) := by decide +kernel
theorem dX1_init_37 : decode cX1_init 37 = .ok (.dup, 1) := by decide +kernel
theorem dX1_init_38 : decode cX1_init 38 = .ok (.iconst 5, 1) := by decide +kernel
theorem dX1_init_39 : decode cX1_init 39 = .ok (.iconst 5, 1) := by decide +kernel
theorem dX1_init_40 : decode cX1_init 40 = .ok (.iastore, 1) := by decide +kernel
theorem dX1_init_41 : decode cX1_init 41 = .ok (.dup, 1) := by decide +kernel
theorem dX1_init_42 : decode cX1_init 42 = .ok (.bipush 6, 2) := by decide +kernel
theorem dX1_init_44 : decode cX1_init 44 = .ok (.bipush 6, 2) := by decide +kernel
theorem dX1_init_46 : decode cX1_init 46 = .ok (.iastore, 1) := by decide +kernel
theorem dX1_init_47 : decode cX1_init 47 = .ok (.dup, 1) := by decide +kernel
theorem dX1_init_48 : decode cX1_init 48 = .ok (.bipush 7, 2) := by decide +kernel
theorem dX1_init_50 : decode cX1_init 50 = .ok (.bipush 7, 2) := by decide +kernel
theorem dX1_init_52 : decode cX1_init 52 = .ok (.iastore, 1) := by decide +kernel
theorem dX1_init_53 : decode cX1_init 53 = .ok (.dup, 1) := by decide +kernel
theorem dX1_init_54 : decode cX1_init 54 = .ok (.bipush 8, 2) := by decide +kernel
theorem dX1_init_56 : decode cX1_init 56 = .ok (.bipush 8, 2) := by decide +kernel
theorem dX1_init_58 : decode cX1_init 58 = .ok (.iastore, 1) := by decide +kernel
theorem dX1_init_59 : decode cX1_init 59 = .ok (.dup, 1) := by decide +kernel
theorem dX1_init_60 : decode cX1_init 60 = .ok (.bipush 9, 2) := by decide +kernel
theorem dX1_init_62 : decode cX1_init 62 = .ok (.bipush 9, 2) := by decide +kernel
theorem dX1_init_64 : decode cX1_init 64 = .ok (.iastore, 1) := by decide +kernel
theorem dX1_init_65 : decode cX1_init 65 = .ok (.putfield 15, 3) := by decide +kernel
theorem dX1_init_68 : decode cX1_init 68 = .ok (.aload_n 0, 1) := by decide +kernel
theorem dX1_init_69 : decode cX1_init 69 = .ok (.iconst 2, 1) := by decide +kernel
theorem dX1_init_70 : decode cX1_init 70 = .ok (.putfield 18, 3) := by decide +kernel
theorem dX1_init_73 : decode cX1_init 73 = .ok (.return_, 1) := by decide +kernel
theorem dX1_with_0 : decode cX1_with 0 = .ok (.aload_n 0, 1) := by decide +kernel
theorem dX1_with_1 : decode cX1_with 1 = .ok (.arraylength, 1) := by decide +kernel
theorem dX1_with_2 : decode cX1_with 2 = .ok (.iconst 1, 1) := by decide +kernel
theorem dX1_with_3 : decode cX1_with 3 = .ok (.iadd, 1) := by decide +kernel
theorem dX1_with_4 : decode cX1_with 4 = .ok (.anewarray 7, 3) := by decide +kernel
theorem dX1_with_7 : decode cX1_with 7 = .ok (.astore_n 2, 1) := by decide +kernel
theorem dX1_with_8 : decode cX1_with 8 = .ok (.iconst 0, 1) := by decide +kernel
theorem dX1_with_9 : decode cX1_with 9 = .ok (.istore_n 3, 1) := by decide +kernel
theorem dX1_with_10 : decode cX1_with 10 = .ok (.iload_n 3, 1) := by decide +kernel
theorem dX1_with_11 : decode cX1_with 11 = .ok (.aload_n 0, 1) := by decide +kernel
theorem dX1_with_12 : decode cX1_with 12 = .ok (.arraylength, 1) := by decide +kernel
theorem dX1_with_13 : decode cX1_with 13 = .ok (.if_icmp .ge 15, 3) := by decide +kernel
theorem dX1_with_16 : decode cX1_with 16 = .ok (.aload_n 2, 1) := by decide +kernel
theorem dX1_with_17 : decode cX1_with 17 = .ok (.iload_n 3, 1) := by decide +kernel
theorem dX1_with_18 : decode cX1_with 18 = .ok (.aload_n 0, 1) := by decide +kernel
theorem dX1_with_19 : decode cX1_with 19 = .ok (.iload_n 3, 1) := by decide +kernel
theorem dX1_with_20 : decode cX1_with 20 = .ok (.aaload, 1) := by decide +kernel
theorem dX1_with_21 : decode cX1_with 21 = .ok (.aastore, 1) := by decide +kernel
theorem dX1_with_22 : decode cX1_with 22 = .ok (.iinc 3 1, 3) := by decide +kernel
theorem dX1_with_25 : decode cX1_with 25 = .ok (.goto (-15), 3) := by decide +kernel
theorem dX1_with_28 : decode cX1_with 28 = .ok (.aload_n 2, 1) := by decide +kernel
theorem dX1_with_29 : decode cX1_with 29 = .ok (.aload_n 0, 1) := by decide +kernel
theorem dX1_with_30 : decode cX1_with 30 = .ok (.arraylength, 1) := by decide +kernel
theorem dX1_with_31 : decode cX1_with 31 = .ok (.aload_n 1, 1) := by decide +kernel
theorem dX1_with_32 : decode cX1_with 32 = .ok (.aastore, 1) := by decide +kernel
theorem dX1_with_33 : decode cX1_with 33 = .ok (.aload_n 2, 1) := by decide +kernel
theorem dX1_with_34 : decode cX1_with 34 = .ok (.areturn, 1) := by decide +kernel
theorem dX1_less_0 : decode cX1_less 0 = .ok (.aload_n 0, 1) := by decide +kernel
theorem dX1_less_1 : decode cX1_less 1 = .ok (.arraylength, 1) := by decide +kernel
theorem dX1_less_2 : decode cX1_less 2 = .ok (.iconst 1, 1) := by decide +kernel
theorem dX1_less_3 : decode cX1_less 3 = .ok (.isub, 1) := by decide +kernel
theorem dX1_less_4 : decode cX1_less 4 = .ok (.anewarray 7, 3) := by decide +kernel
theorem dX1_less_7 : decode cX1_less 7 = .ok (.astore_n 1, 1) := by decide +kernel
theorem dX1_less_8 : decode cX1_less 8 = .ok (.iconst 0, 1) := by decide +kernel
theorem dX1_less_9 : decode cX1_less 9 = .ok (.istore_n 2, 1) := by decide +kernel
theorem dX1_less_10 : decode cX1_less 10 = .ok (.iload_n 2, 1) := by decide +kernel
theorem dX1_less_11 : decode cX1_less 11 = .ok (.aload_n 1, 1) := by decide +kernel
theorem dX1_less_12 : decode cX1_less 12 = .ok (.arraylength, 1) := by decide +kernel
theorem dX1_less_13 : decode cX1_less 13 = .ok (.if_icmp .ge 15, 3) := by decide +kernel
theorem dX1_less_16 : decode cX1_less 16 = .ok (.aload_n 1, 1) := by decide +kernel
theorem dX1_less_17 : decode cX1_less 17 = .ok (.iload_n 2, 1) := by decide +kernel
theorem dX1_less_18 : decode cX1_less 18 = .ok (.aload_n 0, 1) := by decide +kernel
theorem dX1_less_19 : decode cX1_less 19 = .ok (.iload_n 2, 1) := by decide +kernel
theorem dX1_less_20 : decode cX1_less 20 = .ok (.aaload, 1) := by decide +kernel
theorem dX1_less_21 : decode cX1_less 21 = .ok (.aastore, 1) := by decide +kernel
theorem dX1_less_22 : decode cX1_less 22 = .ok (.iinc 2 1, 3) := by decide +kernel
theorem dX1_less_25 : decode cX1_less 25 = .ok (.goto (-15), 3) := by decide +kernel
theorem dX1_less_28 : decode cX1_less 28 = .ok (.aload_n 1, 1) := by decide +kernel
theorem dX1_less_29 : decode cX1_less 29 = .ok (.areturn, 1) := by decide +kernel
theorem dX1_copy_0 : decode cX1_copy 0 = .ok (.new 10, 3) := by decide +kernel
theorem dX1_copy_3 : decode cX1_copy 3 = .ok (.dup, 1) := by decide +kernel
theorem dX1_copy_4 : decode cX1_copy 4 = .ok (.invokespecial 22, 3) := by decide +kernel
theorem dX1_copy_7 : decode cX1_copy 7 = .ok (.astore_n 1, 1) := by decide +kernel
theorem dX1_copy_8 : decode cX1_copy 8 = .ok (.aload_n 1, 1) := by decide +kernel
theorem dX1_copy_9 : decode cX1_copy 9 = .ok (.aload_n 0, 1) := by decide +kernel
theorem dX1_copy_10 : decode cX1_copy 10 = .ok (.getfield 18, 3) := by decide +kernel
theorem dX1_copy_13 : decode cX1_copy 13 = .ok (.putfield 18, 3) := by decide +kernel
theorem dX1_copy_16 : decode cX1_copy 16 = .ok (.iconst 0, 1) := by decide +kernel
theorem dX1_copy_17 : decode cX1_copy 17 = .ok (.istore_n 2, 1) := by decide +kernel
theorem dX1_copy_18 : decode cX1_copy 18 = .ok (.iload_n 2, 1) := by decide +kernel
theorem dX1_copy_19 : decode cX1_copy 19 = .ok (.bipush 10, 2) := by decide +kernel
theorem dX1_copy_21 : decode cX1_copy 21 = .ok (.if_icmp .ge 21, 3) := by decide +kernel
theorem dX1_copy_24 : decode cX1_copy 24 = .ok (.aload_n 1, 1) := by decide +kernel
theorem dX1_copy_25 : decode cX1_copy 25 = .ok (.getfield 15, 3) := by decide +kernel
theorem dX1_copy_28 : decode cX1_copy 28 = .ok (.iload_n 2, 1) := by decide +kernel
theorem dX1_copy_29 : decode cX1_copy 29 = .ok (.aload_n 0, 1) := by decide +kernel
theorem dX1_copy_30 : decode cX1_copy 30 = .ok (.getfield 15, 3) := by decide +kernel
theorem dX1_copy_33 : decode cX1_copy 33 = .ok (.iload_n 2, 1) := by decide +kernel
theorem dX1_copy_34 : decode cX1_copy 34 = .ok (.iaload, 1) := by decide +kernel
theorem dX1_copy_35 : decode cX1_copy 35 = .ok (.iastore, 1) := by decide +kernel
theorem dX1_copy_36 : decode cX1_copy 36 = .ok (.iinc 2 1, 3) := by decide +kernel
theorem dX1_copy_39 : decode cX1_copy 39 = .ok (.goto (-21), 3) := by decide +kernel
theorem dX1_copy_42 : decode cX1_copy 42 = .ok (.aload_n 0, 1) := by decide +kernel
theorem dX1_copy_43 : decode cX1_copy 43 = .ok (.getfield 9, 3) := by decide +kernel
theorem dX1_copy_46 : decode cX1_copy 46 = .ok (.astore_n 2, 1) := by decide +kernel
theorem dX1_copy_47 : decode cX1_copy 47 = .ok (.aload_n 2, 1) := by decide +kernel
theorem dX1_copy_48 : decode cX1_copy 48 = .ok (.arraylength, 1) := by decide +kernel
theorem dX1_copy_49 : decode cX1_copy 49 = .ok (.istore_n 3, 1) := by decide +kernel
theorem dX1_copy_50 : decode cX1_copy 50 = .ok (.iconst 0, 1) := by decide +kernel
theorem dX1_copy_51 : decode cX1_copy 51 = .ok (.istore 4, 2) := by decide +kernel
theorem dX1_copy_53 : decode cX1_copy 53 = .ok (.iload 4, 2) := by decide +kernel
theorem dX1_copy_55 : decode cX1_copy 55 = .ok (.iload_n 3, 1) := by decide +kernel
theorem dX1_copy_56 : decode cX1_copy 56 = .ok (.if_icmp .ge 72, 3) := by decide +kernel
theorem dX1_copy_59 : decode cX1_copy 59 = .ok (.aload_n 2, 1) := by decide +kernel
theorem dX1_copy_60 : decode cX1_copy 60 = .ok (.iload 4, 2) := by decide +kernel
theorem dX1_copy_62 : decode cX1_copy 62 = .ok (.aaload, 1) := by decide +kernel
theorem dX1_copy_63 : decode cX1_copy 63 = .ok (.astore 5, 2) := by decide +kernel
theorem dX1_copy_65 : decode cX1_copy 65 = .ok (.aload_n 1, 1) := by decide +kernel
theorem dX1_copy_66 : decode cX1_copy 66 = .ok (.aload_n 1, 1) := by decide +kernel
theorem dX1_copy_67 : decode cX1_copy 67 = .ok (.getfield 9, 3) := by decide +kernel
theorem dX1_copy_70 : decode cX1_copy 70 = .ok (.bipush 6, 2) := by decide +kernel
theorem dX1_copy_72 : decode cX1_copy 72 = .ok (.newarray .int, 2) := by decide +kernel
theorem dX1_copy_74 : decode cX1_copy 74 = .ok (.dup, 1) := by decide +kernel
theorem dX1_copy_75 : decode cX1_copy 75 = .ok (.iconst 0, 1) := by decide +kernel
theorem dX1_copy_76 : decode cX1_copy 76 = .ok (.aload 5, 2) := by decide +kernel
theorem dX1_copy_78 : decode cX1_copy 78 = .ok (.iconst 0, 1) := by decide +kernel
theorem dX1_copy_79 : decode cX1_copy 79 = .ok (.iaload, 1) := by decide +kernel
theorem dX1_copy_80 : decode cX1_copy 80 = .ok (.iastore, 1) := by decide +kernel
theorem dX1_copy_81 : decode cX1_copy 81 = .ok (.dup, 1) := by decide +kernel
theorem dX1_copy_82 : decode cX1_copy 82 = .ok (.iconst 1, 1) := by decide +kernel
theorem dX1_copy_83 : decode cX1_copy 83 = .ok (.aload 5, 2) := by decide +kernel
theorem dX1_copy_85 : decode cX1_copy 85 = .ok (.iconst 1, 1) := by decide +kernel
theorem dX1_copy_86 : decode cX1_copy 86 = .ok (.iaload, 1) := by decide +kernel
theorem dX1_copy_87 : decode cX1_copy 87 = .ok (.iastore, 1) := by decide +kernel
theorem dX1_copy_88 : decode cX1_copy 88 = .ok (.dup, 1) := by decide +kernel
theorem dX1_copy_89 : decode cX1_copy 89 = .ok (.iconst 2, 1) := by decide +kernel
theorem dX1_copy_90 : decode cX1_copy 90 = .ok (.aload 5, 2) := by decide +kernel
theorem dX1_copy_92 : decode cX1_copy 92 = .ok (.iconst 2, 1) := by decide +kernel
theorem dX1_copy_93 : decode cX1_copy 93 = .ok (.iaload, 1) := by decide +kernel
theorem dX1_copy_94 : decode cX1_copy 94 = .ok (.iastore, 1) := by decide +kernel
theorem dX1_copy_95 : decode cX1_copy 95 = .ok (.dup, 1) := by decide +kernel
theorem dX1_copy_96 : decode cX1_copy 96 = .ok (.iconst 3, 1) := by decide +kernel
theorem dX1_copy_97 : decode cX1_copy 97 = .ok (.aload 5, 2) := by decide +kernel
theorem dX1_copy_99 : decode cX1_copy 99 = .ok (.iconst 3, 1) := by decide +kernel
theorem dX1_copy_100 : decode cX1_copy 100 = .ok (.iaload, 1) := by decide +kernel
theorem dX1_copy_101 : decode cX1_copy 101 = .ok (.iastore, 1) := by decide +kernel
theorem dX1_copy_102 : decode cX1_copy 102 = .ok (.dup, 1) := by decide +kernel
theorem dX1_copy_103 : decode cX1_copy 103 = .ok (.iconst 4, 1) := by decide +kernel
theorem dX1_copy_104 : decode cX1_copy 104 = .ok (.aload 5, 2) := by decide +kernel
theorem dX1_copy_106 : decode cX1_copy 106 = .ok (.iconst 4, 1) := by decide +kernel
theorem dX1_copy_107 : decode cX1_copy 107 = .ok (.iaload, 1) := by decide +kernel
theorem dX1_copy_108 : decode cX1_copy 108 = .ok (.iastore, 1) := by decide +kernel
theorem dX1_copy_109 : decode cX1_copy 109 = .ok (.dup, 1) := by decide +kernel
theorem dX1_copy_110 : decode cX1_copy 110 = .ok (.iconst 5, 1) := by decide +kernel
theorem dX1_copy_111 : decode cX1_copy 111 = .ok (.aload 5, 2) := by decide +kernel
theorem dX1_copy_113 : decode cX1_copy 113 = .ok (.iconst 5, 1) := by decide +kernel
theorem dX1_copy_114 : decode cX1_copy 114 = .ok (.iaload, 1) := by decide +kernel
theorem dX1_copy_115 : decode cX1_copy 115 = .ok (.iastore, 1) := by decide +kernel
theorem dX1_copy_116 : decode cX1_copy 116 = .ok (.invokestatic 23, 3) := by decide +kernel
theorem dX1_copy_119 : decode cX1_copy 119 = .ok (.putfield 9, 3) := by decide +kernel
theorem dX1_copy_122 : decode cX1_copy 122 = .ok (.iinc 4 1, 3) := by decide +kernel
theorem dX1_copy_125 : decode cX1_copy 125 = .ok (.goto (-72), 3) := by decide +kernel
theorem dX1_copy_128 : decode cX1_copy 128 = .ok (.aload_n 1, 1) := by decide +kernel
theorem dX1_copy_129 : decode cX1_copy 129 = .ok (.areturn, 1) := by decide +kernel
theorem dX1_sung_0 : decode cX1_sung 0 = .ok (.iload_n 0, 1) := by decide +kernel
theorem dX1_sung_1 : decode cX1_sung 1 = .ok (.iload_n 1, 1) := by decide +kernel
theorem dX1_sung_2 : decode cX1_sung 2 = .ok (.iadd, 1) := by decide +kernel
theorem dX1_sung_3 : decode cX1_sung 3 = .ok (.ifCond .lt 11, 3) := by decide +kernel
theorem dX1_sung_6 : decode cX1_sung 6 = .ok (.iload_n 0, 1) := by decide +kernel
theorem dX1_sung_7 : decode cX1_sung 7 = .ok (.iload_n 1, 1) := by decide +kernel
theorem dX1_sung_8 : decode cX1_sung 8 = .ok (.iadd, 1) := by decide +kernel
theorem dX1_sung_9 : decode cX1_sung 9 = .ok (.bipush 24, 2) := by decide +kernel
theorem dX1_sung_11 : decode cX1_sung 11 = .ok (.if_icmp .le 9, 3) := by decide +kernel
theorem dX1_sung_14 : decode cX1_sung 14 = .ok (.iload_n 0, 1) := by decide +kernel
theorem dX1_sung_15 : decode cX1_sung 15 = .ok (.iload_n 1, 1) := by decide +kernel
theorem dX1_sung_16 : decode cX1_sung 16 = .ok (.isub, 1) := by decide +kernel
theorem dX1_sung_17 : decode cX1_sung 17 = .ok (.goto 6, 3) := by decide +kernel
theorem dX1_sung_20 : decode cX1_sung 20 = .ok (.iload_n 0, 1) := by decide +kernel
theorem dX1_sung_21 : decode cX1_sung 21 = .ok (.iload_n 1, 1) := by decide +kernel
theorem dX1_sung_22 : decode cX1_sung 22 = .ok (.iadd, 1) := by decide +kernel
theorem dX1_sung_23 : decode cX1_sung 23 = .ok (.ireturn, 1) := by decide +kernel
theorem dX1_ahead_0 : decode cX1_ahead 0 = .ok (.iload_n 1, 1) := by decide +kernel
theorem dX1_ahead_1 : decode cX1_ahead 1 = .ok (.ifCond .ne 8, 3) := by decide +kernel
theorem dX1_ahead_4 : decode cX1_ahead 4 = .ok (.bipush 12, 2) := by decide +kernel
theorem dX1_ahead_6 : decode cX1_ahead 6 = .ok (.goto 13, 3) := by decide +kernel
theorem dX1_ahead_9 : decode cX1_ahead 9 = .ok (.aload_n 0, 1) := by decide +kernel
theorem dX1_ahead_10 : decode cX1_ahead 10 = .ok (.getfield 9, 3) := by decide +kernel
theorem dX1_ahead_13 : decode cX1_ahead 13 = .ok (.iload_n 1, 1) := by decide +kernel
theorem dX1_ahead_14 : decode cX1_ahead 14 = .ok (.iconst 1, 1) := by decide +kernel
theorem dX1_ahead_15 : decode cX1_ahead 15 = .ok (.isub, 1) := by decide +kernel
theorem dX1_ahead_16 : decode cX1_ahead 16 = .ok (.aaload, 1) := by decide +kernel
theorem dX1_ahead_17 : decode cX1_ahead 17 = .ok (.iconst 3, 1) := by decide +kernel
theorem dX1_ahead_18 : decode cX1_ahead 18 = .ok (.iaload, 1) := by decide +kernel
theorem dX1_ahead_19 : decode cX1_ahead 19 = .ok (.ireturn, 1) := by decide +kernel
theorem dX1_sing_0 : decode cX1_sing 0 = .ok (.iconst 0, 1) := by decide +kernel
theorem dX1_sing_1 : decode cX1_sing 1 = .ok (.istore_n 2, 1) := by decide +kernel
theorem dX1_sing_2 : decode cX1_sing 2 = .ok (.iload_n 2, 1) := by decide +kernel
theorem dX1_sing_3 : decode cX1_sing 3 = .ok (.aload_n 0, 1) := by decide +kernel
theorem dX1_sing_4 : decode cX1_sing 4 = .ok (.getfield 9, 3) := by decide +kernel
theorem dX1_sing_7 : decode cX1_sing 7 = .ok (.arraylength, 1) := by decide +kernel
theorem dX1_sing_8 : decode cX1_sing 8 = .ok (.if_icmp .ge 71, 3) := by decide +kernel
theorem dX1_sing_11 : decode cX1_sing 11 = .ok (.aload_n 0, 1) := by decide +kernel
theorem dX1_sing_12 : decode cX1_sing 12 = .ok (.getfield 9, 3) := by decide +kernel
theorem dX1_sing_15 : decode cX1_sing 15 = .ok (.iload_n 2, 1) := by decide +kernel
theorem dX1_sing_16 : decode cX1_sing 16 = .ok (.aaload, 1) := by decide +kernel
theorem dX1_sing_17 : decode cX1_sing 17 = .ok (.astore_n 3, 1) := by decide +kernel
theorem dX1_sing_18 : decode cX1_sing 18 = .ok (.aload_n 3, 1) := by decide +kernel
theorem dX1_sing_19 : decode cX1_sing 19 = .ok (.iconst 3, 1) := by decide +kernel
theorem dX1_sing_20 : decode cX1_sing 20 = .ok (.aload_n 0, 1) := by decide +kernel
theorem dX1_sing_21 : decode cX1_sing 21 = .ok (.iload_n 2, 1) := by decide +kernel
theorem dX1_sing_22 : decode cX1_sing 22 = .ok (.invokevirtual 27, 3) := by decide +kernel
theorem dX1_sing_25 : decode cX1_sing 25 = .ok (.aload_n 3, 1) := by decide +kernel
theorem dX1_sing_26 : decode cX1_sing 26 = .ok (.iconst 0, 1) := by decide +kernel
theorem dX1_sing_27 : decode cX1_sing 27 = .ok (.iaload, 1) := by decide +kernel
theorem dX1_sing_28 : decode cX1_sing 28 = .ok (.aload_n 0, 1) := by decide +kernel
theorem dX1_sing_29 : decode cX1_sing 29 = .ok (.getfield 18, 3) := by decide +kernel
theorem dX1_sing_32 : decode cX1_sing 32 = .ok (.imul, 1) := by decide +kernel
theorem dX1_sing_33 : decode cX1_sing 33 = .ok (.invokestatic 31, 3) := by decide +kernel
theorem dX1_sing_36 : decode cX1_sing 36 = .ok (.iastore, 1) := by decide +kernel
theorem dX1_sing_37 : decode cX1_sing 37 = .ok (.aload_n 3, 1) := by decide +kernel
theorem dX1_sing_38 : decode cX1_sing 38 = .ok (.iconst 4, 1) := by decide +kernel
theorem dX1_sing_39 : decode cX1_sing 39 = .ok (.aload_n 3, 1) := by decide +kernel
theorem dX1_sing_40 : decode cX1_sing 40 = .ok (.iconst 3, 1) := by decide +kernel
theorem dX1_sing_41 : decode cX1_sing 41 = .ok (.iaload, 1) := by decide +kernel
theorem dX1_sing_42 : decode cX1_sing 42 = .ok (.aload_n 0, 1) := by decide +kernel
theorem dX1_sing_43 : decode cX1_sing 43 = .ok (.iload_n 2, 1) := by decide +kernel
theorem dX1_sing_44 : decode cX1_sing 44 = .ok (.invokevirtual 27, 3) := by decide +kernel
theorem dX1_sing_47 : decode cX1_sing 47 = .ok (.aload_n 3, 1) := by decide +kernel
theorem dX1_sing_48 : decode cX1_sing 48 = .ok (.iconst 0, 1) := by decide +kernel
theorem dX1_sing_49 : decode cX1_sing 49 = .ok (.iaload, 1) := by decide +kernel
theorem dX1_sing_50 : decode cX1_sing 50 = .ok (.aload_n 0, 1) := by decide +kernel
theorem dX1_sing_51 : decode cX1_sing 51 = .ok (.getfield 18, 3) := by decide +kernel
theorem dX1_sing_54 : decode cX1_sing 54 = .ok (.imul, 1) := by decide +kernel
theorem dX1_sing_55 : decode cX1_sing 55 = .ok (.iadd, 1) := by decide +kernel
theorem dX1_sing_56 : decode cX1_sing 56 = .ok (.if_icmp .ne 7, 3) := by decide +kernel
theorem dX1_sing_59 : decode cX1_sing 59 = .ok (.iconst 0, 1) := by decide +kernel
theorem dX1_sing_60 : decode cX1_sing 60 = .ok (.goto 4, 3) := by decide +kernel
theorem dX1_sing_63 : decode cX1_sing 63 = .ok (.iconst 1, 1) := by decide +kernel
theorem dX1_sing_64 : decode cX1_sing 64 = .ok (.iastore, 1) := by decide +kernel
theorem dX1_sing_65 : decode cX1_sing 65 = .ok (.iload_n 1, 1) := by decide +kernel
theorem dX1_sing_66 : decode cX1_sing 66 = .ok (.ifCond .eq 7, 3) := by decide +kernel
theorem dX1_sing_69 : decode cX1_sing 69 = .ok (.aload_n 3, 1) := by decide +kernel
theorem dX1_sing_70 : decode cX1_sing 70 = .ok (.iconst 5, 1) := by decide +kernel
theorem dX1_sing_71 : decode cX1_sing 71 = .ok (.iconst 0, 1) := by decide +kernel
theorem dX1_sing_72 : decode cX1_sing 72 = .ok (.iastore, 1) := by decide +kernel
theorem dX1_sing_73 : decode cX1_sing 73 = .ok (.iinc 2 1, 3) := by decide +kernel
theorem dX1_sing_76 : decode cX1_sing 76 = .ok (.goto (-74), 3) := by decide +kernel
theorem dX1_sing_79 : decode cX1_sing 79 = .ok (.return_, 1) := by decide +kernel
theorem dX1_readings_0 : decode cX1_readings 0 = .ok (.iconst 0, 1) := by decide +kernel
theorem dX1_readings_1 : decode cX1_readings 1 = .ok (.istore_n 2, 1) := by decide +kernel
theorem dX1_readings_2 : decode cX1_readings 2 = .ok (.iconst (-1), 1) := by decide +kernel
theorem dX1_readings_3 : decode cX1_readings 3 = .ok (.istore_n 3, 1) := by decide +kernel
theorem dX1_readings_4 : decode cX1_readings 4 = .ok (.bipush (-3), 2) := by decide +kernel
theorem dX1_readings_6 : decode cX1_readings 6 = .ok (.istore 4, 2) := by decide +kernel
theorem dX1_readings_8 : decode cX1_readings 8 = .ok (.iload 4, 2) := by decide +kernel
theorem dX1_readings_10 : decode cX1_readings 10 = .ok (.iconst 4, 1) := by decide +kernel
theorem dX1_readings_11 : decode cX1_readings 11 = .ok (.if_icmp .ge 108, 3) := by decide +kernel
theorem dX1_readings_14 : decode cX1_readings 14 = .ok (.iconst 0, 1) := by decide +kernel
theorem dX1_readings_15 : decode cX1_readings 15 = .ok (.istore 5, 2) := by decide +kernel
theorem dX1_readings_17 : decode cX1_readings 17 = .ok (.iload 5, 2) := by decide +kernel
theorem dX1_readings_19 : decode cX1_readings 19 = .ok (.bipush 10, 2) := by decide +kernel
theorem dX1_readings_21 : decode cX1_readings 21 = .ok (.if_icmp .ge 92, 3) := by decide +kernel
theorem dX1_readings_24 : decode cX1_readings 24 = .ok (.aload_n 0, 1) := by decide +kernel
theorem dX1_readings_25 : decode cX1_readings 25 = .ok (.iload_n 1, 1) := by decide +kernel
theorem dX1_readings_26 : decode cX1_readings 26 = .ok (.invokevirtual 27, 3) := by decide +kernel
theorem dX1_readings_29 : decode cX1_readings 29 = .ok (.iload 4, 2) := by decide +kernel
theorem dX1_readings_31 : decode cX1_readings 31 = .ok (.aload_n 0, 1) := by decide +kernel
theorem dX1_readings_32 : decode cX1_readings 32 = .ok (.getfield 18, 3) := by decide +kernel
theorem dX1_readings_35 : decode cX1_readings 35 = .ok (.imul, 1) := by decide +kernel
theorem dX1_readings_36 : decode cX1_readings 36 = .ok (.invokestatic 31, 3) := by decide +kernel
theorem dX1_readings_39 : decode cX1_readings 39 = .ok (.aload_n 0, 1) := by decide +kernel
theorem dX1_readings_40 : decode cX1_readings 40 = .ok (.getfield 9, 3) := by decide +kernel
theorem dX1_readings_43 : decode cX1_readings 43 = .ok (.iload_n 1, 1) := by decide +kernel
theorem dX1_readings_44 : decode cX1_readings 44 = .ok (.aaload, 1) := by decide +kernel
theorem dX1_readings_45 : decode cX1_readings 45 = .ok (.iconst 3, 1) := by decide +kernel
theorem dX1_readings_46 : decode cX1_readings 46 = .ok (.iaload, 1) := by decide +kernel
theorem dX1_readings_47 : decode cX1_readings 47 = .ok (.if_icmp .ne 60, 3) := by decide +kernel
theorem dX1_readings_50 : decode cX1_readings 50 = .ok (.aload_n 0, 1) := by decide +kernel
theorem dX1_readings_51 : decode cX1_readings 51 = .ok (.getfield 15, 3) := by decide +kernel
theorem dX1_readings_54 : decode cX1_readings 54 = .ok (.iload 5, 2) := by decide +kernel
theorem dX1_readings_56 : decode cX1_readings 56 = .ok (.iaload, 1) := by decide +kernel
theorem dX1_readings_57 : decode cX1_readings 57 = .ok (.aload_n 0, 1) := by decide +kernel
theorem dX1_readings_58 : decode cX1_readings 58 = .ok (.getfield 15, 3) := by decide +kernel
theorem dX1_readings_61 : decode cX1_readings 61 = .ok (.aload_n 0, 1) := by decide +kernel
theorem dX1_readings_62 : decode cX1_readings 62 = .ok (.getfield 9, 3) := by decide +kernel
theorem dX1_readings_65 : decode cX1_readings 65 = .ok (.iload_n 1, 1) := by decide +kernel
theorem dX1_readings_66 : decode cX1_readings 66 = .ok (.aaload, 1) := by decide +kernel
theorem dX1_readings_67 : decode cX1_readings 67 = .ok (.iconst 2, 1) := by decide +kernel
theorem dX1_readings_68 : decode cX1_readings 68 = .ok (.iaload, 1) := by decide +kernel
theorem dX1_readings_69 : decode cX1_readings 69 = .ok (.iaload, 1) := by decide +kernel
theorem dX1_readings_70 : decode cX1_readings 70 = .ok (.if_icmp .eq 6, 3) := by decide +kernel
theorem dX1_readings_73 : decode cX1_readings 73 = .ok (.goto 34, 3) := by decide +kernel
theorem dX1_readings_76 : decode cX1_readings 76 = .ok (.iload 4, 2) := by decide +kernel
theorem dX1_readings_78 : decode cX1_readings 78 = .ok (.aload_n 0, 1) := by decide +kernel
theorem dX1_readings_79 : decode cX1_readings 79 = .ok (.getfield 9, 3) := by decide +kernel
theorem dX1_readings_82 : decode cX1_readings 82 = .ok (.iload_n 1, 1) := by decide +kernel
theorem dX1_readings_83 : decode cX1_readings 83 = .ok (.aaload, 1) := by decide +kernel
theorem dX1_readings_84 : decode cX1_readings 84 = .ok (.iconst 0, 1) := by decide +kernel
theorem dX1_readings_85 : decode cX1_readings 85 = .ok (.iaload, 1) := by decide +kernel
theorem dX1_readings_86 : decode cX1_readings 86 = .ok (.if_icmp .ne 18, 3) := by decide +kernel
theorem dX1_readings_89 : decode cX1_readings 89 = .ok (.iload 5, 2) := by decide +kernel
theorem dX1_readings_91 : decode cX1_readings 91 = .ok (.aload_n 0, 1) := by decide +kernel
theorem dX1_readings_92 : decode cX1_readings 92 = .ok (.getfield 9, 3) := by decide +kernel
theorem dX1_readings_95 : decode cX1_readings 95 = .ok (.iload_n 1, 1) := by decide +kernel
theorem dX1_readings_96 : decode cX1_readings 96 = .ok (.aaload, 1) := by decide +kernel
theorem dX1_readings_97 : decode cX1_readings 97 = .ok (.iconst 2, 1) := by decide +kernel
theorem dX1_readings_98 : decode cX1_readings 98 = .ok (.iaload, 1) := by decide +kernel
theorem dX1_readings_99 : decode cX1_readings 99 = .ok (.if_icmp .ne 5, 3) := by decide +kernel
theorem dX1_readings_102 : decode cX1_readings 102 = .ok (.iload_n 2, 1) := by decide +kernel
theorem dX1_readings_103 : decode cX1_readings 103 = .ok (.istore_n 3, 1) := by decide +kernel
theorem dX1_readings_104 : decode cX1_readings 104 = .ok (.iinc 2 1, 3) := by decide +kernel
theorem dX1_readings_107 : decode cX1_readings 107 = .ok (.iinc 5 1, 3) := by decide +kernel
theorem dX1_readings_110 : decode cX1_readings 110 = .ok (.goto (-93), 3) := by decide +kernel
theorem dX1_readings_113 : decode cX1_readings 113 = .ok (.iinc 4 1, 3) := by decide +kernel
theorem dX1_readings_116 : decode cX1_readings 116 = .ok (.goto (-108), 3) := by decide +kernel
theorem dX1_readings_119 : decode cX1_readings 119 = .ok (.iconst 2, 1) := by decide +kernel
theorem dX1_readings_120 : decode cX1_readings 120 = .ok (.newarray .int, 2) := by decide +kernel
theorem dX1_readings_122 : decode cX1_readings 122 = .ok (.dup, 1) := by decide +kernel
theorem dX1_readings_123 : decode cX1_readings 123 = .ok (.iconst 0, 1) := by decide +kernel
theorem dX1_readings_124 : decode cX1_readings 124 = .ok (.iload_n 2, 1) := by decide +kernel
theorem dX1_readings_125 : decode cX1_readings 125 = .ok (.iastore, 1) := by decide +kernel
theorem dX1_readings_126 : decode cX1_readings 126 = .ok (.dup, 1) := by decide +kernel
theorem dX1_readings_127 : decode cX1_readings 127 = .ok (.iconst 1, 1) := by decide +kernel
theorem dX1_readings_128 : decode cX1_readings 128 = .ok (.iload_n 3, 1) := by decide +kernel
theorem dX1_readings_129 : decode cX1_readings 129 = .ok (.iastore, 1) := by decide +kernel
theorem dX1_readings_130 : decode cX1_readings 130 = .ok (.areturn, 1) := by decide +kernel
theorem dX1_isOpen_0 : decode cX1_isOpen 0 = .ok (.aload_n 0, 1) := by decide +kernel
theorem dX1_isOpen_1 : decode cX1_isOpen 1 = .ok (.getfield 9, 3) := by decide +kernel
theorem dX1_isOpen_4 : decode cX1_isOpen 4 = .ok (.iload_n 1, 1) := by decide +kernel
theorem dX1_isOpen_5 : decode cX1_isOpen 5 = .ok (.aaload, 1) := by decide +kernel
theorem dX1_isOpen_6 : decode cX1_isOpen 6 = .ok (.iconst 5, 1) := by decide +kernel
theorem dX1_isOpen_7 : decode cX1_isOpen 7 = .ok (.iaload, 1) := by decide +kernel
theorem dX1_isOpen_8 : decode cX1_isOpen 8 = .ok (.ifCond .ne 18, 3) := by decide +kernel
theorem dX1_isOpen_11 : decode cX1_isOpen 11 = .ok (.aload_n 0, 1) := by decide +kernel
theorem dX1_isOpen_12 : decode cX1_isOpen 12 = .ok (.iload_n 1, 1) := by decide +kernel
theorem dX1_isOpen_13 : decode cX1_isOpen 13 = .ok (.invokevirtual 35, 3) := by decide +kernel
theorem dX1_isOpen_16 : decode cX1_isOpen 16 = .ok (.iconst 0, 1) := by decide +kernel
theorem dX1_isOpen_17 : decode cX1_isOpen 17 = .ok (.iaload, 1) := by decide +kernel
theorem dX1_isOpen_18 : decode cX1_isOpen 18 = .ok (.iconst 1, 1) := by decide +kernel
theorem dX1_isOpen_19 : decode cX1_isOpen 19 = .ok (.if_icmp .le 7, 3) := by decide +kernel
theorem dX1_isOpen_22 : decode cX1_isOpen 22 = .ok (.iconst 1, 1) := by decide +kernel
theorem dX1_isOpen_23 : decode cX1_isOpen 23 = .ok (.goto 4, 3) := by decide +kernel
theorem dX1_isOpen_26 : decode cX1_isOpen 26 = .ok (.iconst 0, 1) := by decide +kernel
theorem dX1_isOpen_27 : decode cX1_isOpen 27 = .ok (.ireturn, 1) := by decide +kernel
theorem dX1_open_0 : decode cX1_open 0 = .ok (.iconst 0, 1) := by decide +kernel
theorem dX1_open_1 : decode cX1_open 1 = .ok (.istore_n 1, 1) := by decide +kernel
theorem dX1_open_2 : decode cX1_open 2 = .ok (.iconst 0, 1) := by decide +kernel
theorem dX1_open_3 : decode cX1_open 3 = .ok (.istore_n 2, 1) := by decide +kernel
theorem dX1_open_4 : decode cX1_open 4 = .ok (.iload_n 2, 1) := by decide +kernel
theorem dX1_open_5 : decode cX1_open 5 = .ok (.aload_n 0, 1) := by decide +kernel
theorem dX1_open_6 : decode cX1_open 6 = .ok (.getfield 9, 3) := by decide +kernel
theorem dX1_open_9 : decode cX1_open 9 = .ok (.arraylength, 1) := by decide +kernel
theorem dX1_open_10 : decode cX1_open 10 = .ok (.if_icmp .ge 25, 3) := by decide +kernel
theorem dX1_open_13 : decode cX1_open 13 = .ok (.iload_n 1, 1) := by decide +kernel
theorem dX1_open_14 : decode cX1_open 14 = .ok (.aload_n 0, 1) := by decide +kernel
theorem dX1_open_15 : decode cX1_open 15 = .ok (.iload_n 2, 1) := by decide +kernel
theorem dX1_open_16 : decode cX1_open 16 = .ok (.invokevirtual 39, 3) := by decide +kernel
theorem dX1_open_19 : decode cX1_open 19 = .ok (.ifCond .eq 7, 3) := by decide +kernel
theorem dX1_open_22 : decode cX1_open 22 = .ok (.iconst 1, 1) := by decide +kernel
theorem dX1_open_23 : decode cX1_open 23 = .ok (.goto 4, 3) := by decide +kernel
theorem dX1_open_26 : decode cX1_open 26 = .ok (.iconst 0, 1) := by decide +kernel
theorem dX1_open_27 : decode cX1_open 27 = .ok (.iadd, 1) := by decide +kernel
theorem dX1_open_28 : decode cX1_open 28 = .ok (.istore_n 1, 1) := by decide +kernel
theorem dX1_open_29 : decode cX1_open 29 = .ok (.iinc 2 1, 3) := by decide +kernel
theorem dX1_open_32 : decode cX1_open 32 = .ok (.goto (-28), 3) := by decide +kernel
theorem dX1_open_35 : decode cX1_open 35 = .ok (.iload_n 1, 1) := by decide +kernel
theorem dX1_open_36 : decode cX1_open 36 = .ok (.ireturn, 1) := by decide +kernel
theorem dX1_ways_0 : decode cX1_ways 0 = .ok (.lconst 1, 1) := by decide +kernel
theorem dX1_ways_1 : decode cX1_ways 1 = .ok (.lstore_n 1, 1) := by decide +kernel
theorem dX1_ways_2 : decode cX1_ways 2 = .ok (.iconst 0, 1) := by decide +kernel
theorem dX1_ways_3 : decode cX1_ways 3 = .ok (.istore_n 3, 1) := by decide +kernel
theorem dX1_ways_4 : decode cX1_ways 4 = .ok (.iload_n 3, 1) := by decide +kernel
theorem dX1_ways_5 : decode cX1_ways 5 = .ok (.aload_n 0, 1) := by decide +kernel
theorem dX1_ways_6 : decode cX1_ways 6 = .ok (.getfield 9, 3) := by decide +kernel
theorem dX1_ways_9 : decode cX1_ways 9 = .ok (.arraylength, 1) := by decide +kernel
theorem dX1_ways_10 : decode cX1_ways 10 = .ok (.if_icmp .ge 43, 3) := by decide +kernel
theorem dX1_ways_13 : decode cX1_ways 13 = .ok (.aload_n 0, 1) := by decide +kernel
theorem dX1_ways_14 : decode cX1_ways 14 = .ok (.iload_n 3, 1) := by decide +kernel
theorem dX1_ways_15 : decode cX1_ways 15 = .ok (.invokevirtual 39, 3) := by decide +kernel
theorem dX1_ways_18 : decode cX1_ways 18 = .ok (.ifCond .ne 6, 3) := by decide +kernel
theorem dX1_ways_21 : decode cX1_ways 21 = .ok (.goto 26, 3) := by decide +kernel
theorem dX1_ways_24 : decode cX1_ways 24 = .ok (.lload_n 1, 1) := by decide +kernel
theorem dX1_ways_25 : decode cX1_ways 25 = .ok (.aload_n 0, 1) := by decide +kernel
theorem dX1_ways_26 : decode cX1_ways 26 = .ok (.iload_n 3, 1) := by decide +kernel
theorem dX1_ways_27 : decode cX1_ways 27 = .ok (.invokevirtual 35, 3) := by decide +kernel
theorem dX1_ways_30 : decode cX1_ways 30 = .ok (.iconst 0, 1) := by decide +kernel
theorem dX1_ways_31 : decode cX1_ways 31 = .ok (.iaload, 1) := by decide +kernel
theorem dX1_ways_32 : decode cX1_ways 32 = .ok (.i2l, 1) := by decide +kernel
theorem dX1_ways_33 : decode cX1_ways 33 = .ok (.lmul, 1) := by decide +kernel
theorem dX1_ways_34 : decode cX1_ways 34 = .ok (.lstore_n 1, 1) := by decide +kernel
theorem dX1_ways_35 : decode cX1_ways 35 = .ok (.lload_n 1, 1) := by decide +kernel
theorem dX1_ways_36 : decode cX1_ways 36 = .ok (.ldc2_w 43, 3) := by decide +kernel
theorem dX1_ways_39 : decode cX1_ways 39 = .ok (.lcmp, 1) := by decide +kernel
theorem dX1_ways_40 : decode cX1_ways 40 = .ok (.ifCond .le 7, 3) := by decide +kernel
theorem dX1_ways_43 : decode cX1_ways 43 = .ok (.ldc2_w 43, 3) := by decide +kernel
theorem dX1_ways_46 : decode cX1_ways 46 = .ok (.lstore_n 1, 1) := by decide +kernel
theorem dX1_ways_47 : decode cX1_ways 47 = .ok (.iinc 3 1, 3) := by decide +kernel
theorem dX1_ways_50 : decode cX1_ways 50 = .ok (.goto (-46), 3) := by decide +kernel
theorem dX1_ways_53 : decode cX1_ways 53 = .ok (.lload_n 1, 1) := by decide +kernel
theorem dX1_ways_54 : decode cX1_ways 54 = .ok (.lreturn, 1) := by decide +kernel
theorem dX1_openBy_0 : decode cX1_openBy 0 = .ok (.aload_n 0, 1) := by decide +kernel
theorem dX1_openBy_1 : decode cX1_openBy 1 = .ok (.invokevirtual 45, 3) := by decide +kernel
theorem dX1_openBy_4 : decode cX1_openBy 4 = .ok (.astore_n 2, 1) := by decide +kernel
theorem dX1_openBy_5 : decode cX1_openBy 5 = .ok (.aload_n 2, 1) := by decide +kernel
theorem dX1_openBy_6 : decode cX1_openBy 6 = .ok (.iload_n 1, 1) := by decide +kernel
theorem dX1_openBy_7 : decode cX1_openBy 7 = .ok (.putfield 18, 3) := by decide +kernel
theorem dX1_openBy_10 : decode cX1_openBy 10 = .ok (.aload_n 2, 1) := by decide +kernel
theorem dX1_openBy_11 : decode cX1_openBy 11 = .ok (.iconst 1, 1) := by decide +kernel
theorem dX1_openBy_12 : decode cX1_openBy 12 = .ok (.invokevirtual 49, 3) := by decide +kernel
theorem dX1_openBy_15 : decode cX1_openBy 15 = .ok (.aload_n 2, 1) := by decide +kernel
theorem dX1_openBy_16 : decode cX1_openBy 16 = .ok (.invokevirtual 53, 3) := by decide +kernel
theorem dX1_openBy_19 : decode cX1_openBy 19 = .ok (.ireturn, 1) := by decide +kernel
theorem dX1_isSame_0 : decode cX1_isSame 0 = .ok (.aload_n 0, 1) := by decide +kernel
theorem dX1_isSame_1 : decode cX1_isSame 1 = .ok (.getfield 9, 3) := by decide +kernel
theorem dX1_isSame_4 : decode cX1_isSame 4 = .ok (.arraylength, 1) := by decide +kernel
theorem dX1_isSame_5 : decode cX1_isSame 5 = .ok (.istore_n 2, 1) := by decide +kernel
theorem dX1_isSame_6 : decode cX1_isSame 6 = .ok (.iload_n 2, 1) := by decide +kernel
theorem dX1_isSame_7 : decode cX1_isSame 7 = .ok (.iconst 1, 1) := by decide +kernel
theorem dX1_isSame_8 : decode cX1_isSame 8 = .ok (.iadd, 1) := by decide +kernel
theorem dX1_isSame_9 : decode cX1_isSame 9 = .ok (.newarray .int, 2) := by decide +kernel
theorem dX1_isSame_11 : decode cX1_isSame 11 = .ok (.astore_n 3, 1) := by decide +kernel
theorem dX1_isSame_12 : decode cX1_isSame 12 = .ok (.iload_n 2, 1) := by decide +kernel
theorem dX1_isSame_13 : decode cX1_isSame 13 = .ok (.iconst 1, 1) := by decide +kernel
theorem dX1_isSame_14 : decode cX1_isSame 14 = .ok (.iadd, 1) := by decide +kernel
theorem dX1_isSame_15 : decode cX1_isSame 15 = .ok (.newarray .int, 2) := by decide +kernel
theorem dX1_isSame_17 : decode cX1_isSame 17 = .ok (.astore 4, 2) := by decide +kernel
theorem dX1_isSame_19 : decode cX1_isSame 19 = .ok (.iconst 0, 1) := by decide +kernel
theorem dX1_isSame_20 : decode cX1_isSame 20 = .ok (.istore 5, 2) := by decide +kernel
theorem dX1_isSame_22 : decode cX1_isSame 22 = .ok (.iconst 0, 1) := by decide +kernel
theorem dX1_isSame_23 : decode cX1_isSame 23 = .ok (.istore 6, 2) := by decide +kernel
theorem dX1_isSame_25 : decode cX1_isSame 25 = .ok (.iconst 0, 1) := by decide +kernel
theorem dX1_isSame_26 : decode cX1_isSame 26 = .ok (.istore 7, 2) := by decide +kernel
theorem dX1_isSame_28 : decode cX1_isSame 28 = .ok (.iconst 0, 1) := by decide +kernel
theorem dX1_isSame_29 : decode cX1_isSame 29 = .ok (.istore 8, 2) := by decide +kernel
theorem dX1_isSame_31 : decode cX1_isSame 31 = .ok (.bipush 99, 2) := by decide +kernel
theorem dX1_isSame_33 : decode cX1_isSame 33 = .ok (.istore 9, 2) := by decide +kernel
theorem dX1_isSame_35 : decode cX1_isSame 35 = .ok (.iconst 0, 1) := by decide +kernel
theorem dX1_isSame_36 : decode cX1_isSame 36 = .ok (.istore 10, 2) := by decide +kernel
theorem dX1_isSame_38 : decode cX1_isSame 38 = .ok (.iconst 0, 1) := by decide +kernel
theorem dX1_isSame_39 : decode cX1_isSame 39 = .ok (.istore 11, 2) := by decide +kernel
theorem dX1_isSame_41 : decode cX1_isSame 41 = .ok (.iconst (-1), 1) := by decide +kernel
theorem dX1_isSame_42 : decode cX1_isSame 42 = .ok (.istore 12, 2) := by decide +kernel
theorem dX1_isSame_44 : decode cX1_isSame 44 = .ok (.bipush 10, 2) := by decide +kernel
theorem dX1_isSame_46 : decode cX1_isSame 46 = .ok (.newarray .int, 2) := by decide +kernel
theorem dX1_isSame_48 : decode cX1_isSame 48 = .ok (.astore 13, 2) := by decide +kernel
theorem dX1_isSame_50 : decode cX1_isSame 50 = .ok (.iconst 0, 1) := by decide +kernel
theorem dX1_isSame_51 : decode cX1_isSame 51 = .ok (.istore 14, 2) := by decide +kernel
theorem dX1_isSame_53 : decode cX1_isSame 53 = .ok (.iload 14, 2) := by decide +kernel
theorem dX1_isSame_55 : decode cX1_isSame 55 = .ok (.iload_n 2, 1) := by decide +kernel
theorem dX1_isSame_56 : decode cX1_isSame 56 = .ok (.if_icmp .ge 471, 3) := by decide +kernel
theorem dX1_isSame_59 : decode cX1_isSame 59 = .ok (.aload_n 0, 1) := by decide +kernel
theorem dX1_isSame_60 : decode cX1_isSame 60 = .ok (.getfield 9, 3) := by decide +kernel
theorem dX1_isSame_63 : decode cX1_isSame 63 = .ok (.iload 14, 2) := by decide +kernel
theorem dX1_isSame_65 : decode cX1_isSame 65 = .ok (.aaload, 1) := by decide +kernel
theorem dX1_isSame_66 : decode cX1_isSame 66 = .ok (.astore 15, 2) := by decide +kernel
theorem dX1_isSame_68 : decode cX1_isSame 68 = .ok (.aload_n 0, 1) := by decide +kernel
theorem dX1_isSame_69 : decode cX1_isSame 69 = .ok (.iload 14, 2) := by decide +kernel
theorem dX1_isSame_71 : decode cX1_isSame 71 = .ok (.invokevirtual 35, 3) := by decide +kernel
theorem dX1_isSame_74 : decode cX1_isSame 74 = .ok (.astore 16, 2) := by decide +kernel
theorem dX1_isSame_76 : decode cX1_isSame 76 = .ok (.iload 5, 2) := by decide +kernel
theorem dX1_isSame_78 : decode cX1_isSame 78 = .ok (.aload 15, 2) := by decide +kernel
theorem dX1_isSame_80 : decode cX1_isSame 80 = .ok (.iconst 0, 1) := by decide +kernel
theorem dX1_isSame_81 : decode cX1_isSame 81 = .ok (.iaload, 1) := by decide +kernel
theorem dX1_isSame_82 : decode cX1_isSame 82 = .ok (.iadd, 1) := by decide +kernel
theorem dX1_isSame_83 : decode cX1_isSame 83 = .ok (.bipush 8, 2) := by decide +kernel
theorem dX1_isSame_85 : decode cX1_isSame 85 = .ok (.iadd, 1) := by decide +kernel
theorem dX1_isSame_86 : decode cX1_isSame 86 = .ok (.bipush 8, 2) := by decide +kernel
theorem dX1_isSame_88 : decode cX1_isSame 88 = .ok (.irem, 1) := by decide +kernel
theorem dX1_isSame_89 : decode cX1_isSame 89 = .ok (.istore 5, 2) := by decide +kernel
theorem dX1_isSame_91 : decode cX1_isSame 91 = .ok (.aload_n 3, 1) := by decide +kernel
theorem dX1_isSame_92 : decode cX1_isSame 92 = .ok (.iload 14, 2) := by decide +kernel
theorem dX1_isSame_94 : decode cX1_isSame 94 = .ok (.iconst 1, 1) := by decide +kernel
theorem dX1_isSame_95 : decode cX1_isSame 95 = .ok (.iadd, 1) := by decide +kernel
theorem dX1_isSame_96 : decode cX1_isSame 96 = .ok (.aload_n 3, 1) := by decide +kernel
theorem dX1_isSame_97 : decode cX1_isSame 97 = .ok (.iload 14, 2) := by decide +kernel
theorem dX1_isSame_99 : decode cX1_isSame 99 = .ok (.iaload, 1) := by decide +kernel
theorem dX1_isSame_100 : decode cX1_isSame 100 = .ok (.iastore, 1) := by decide +kernel
theorem dX1_isSame_101 : decode cX1_isSame 101 = .ok (.aload 4, 2) := by decide +kernel
theorem dX1_isSame_103 : decode cX1_isSame 103 = .ok (.iload 14, 2) := by decide +kernel
theorem dX1_isSame_105 : decode cX1_isSame 105 = .ok (.iconst 1, 1) := by decide +kernel
theorem dX1_isSame_106 : decode cX1_isSame 106 = .ok (.iadd, 1) := by decide +kernel
theorem dX1_isSame_107 : decode cX1_isSame 107 = .ok (.aload 4, 2) := by decide +kernel
theorem dX1_isSame_109 : decode cX1_isSame 109 = .ok (.iload 14, 2) := by decide +kernel
theorem dX1_isSame_111 : decode cX1_isSame 111 = .ok (.iaload, 1) := by decide +kernel
theorem dX1_isSame_112 : decode cX1_isSame 112 = .ok (.iastore, 1) := by decide +kernel
theorem dX1_isSame_113 : decode cX1_isSame 113 = .ok (.iconst 0, 1) := by decide +kernel
theorem dX1_isSame_114 : decode cX1_isSame 114 = .ok (.istore 17, 2) := by decide +kernel
theorem dX1_isSame_116 : decode cX1_isSame 116 = .ok (.iload 17, 2) := by decide +kernel
theorem dX1_isSame_118 : decode cX1_isSame 118 = .ok (.aload 15, 2) := by decide +kernel
theorem dX1_isSame_120 : decode cX1_isSame 120 = .ok (.iconst 1, 1) := by decide +kernel
theorem dX1_isSame_121 : decode cX1_isSame 121 = .ok (.iaload, 1) := by decide +kernel
theorem dX1_isSame_122 : decode cX1_isSame 122 = .ok (.if_icmp .ge 89, 3) := by decide +kernel
theorem dX1_isSame_125 : decode cX1_isSame 125 = .ok (.aload_n 3, 1) := by decide +kernel
theorem dX1_isSame_126 : decode cX1_isSame 126 = .ok (.iload 14, 2) := by decide +kernel
theorem dX1_isSame_128 : decode cX1_isSame 128 = .ok (.iconst 1, 1) := by decide +kernel
theorem dX1_isSame_129 : decode cX1_isSame 129 = .ok (.iadd, 1) := by decide +kernel
theorem dX1_isSame_130 : decode cX1_isSame 130 = .ok (.dup2, 1) := by decide +kernel
theorem dX1_isSame_131 : decode cX1_isSame 131 = .ok (.iaload, 1) := by decide +kernel
theorem dX1_isSame_132 : decode cX1_isSame 132 = .ok (.iload 5, 2) := by decide +kernel
theorem dX1_isSame_134 : decode cX1_isSame 134 = .ok (.ifCond .le 13, 3) := by decide +kernel
theorem dX1_isSame_137 : decode cX1_isSame 137 = .ok (.iload 5, 2) := by decide +kernel
theorem dX1_isSame_139 : decode cX1_isSame 139 = .ok (.iconst 4, 1) := by decide +kernel
theorem dX1_isSame_140 : decode cX1_isSame 140 = .ok (.if_icmp .ge 7, 3) := by decide +kernel
theorem dX1_isSame_143 : decode cX1_isSame 143 = .ok (.iconst 1, 1) := by decide +kernel
theorem dX1_isSame_144 : decode cX1_isSame 144 = .ok (.goto 14, 3) := by decide +kernel
theorem dX1_isSame_147 : decode cX1_isSame 147 = .ok (.iload 5, 2) := by decide +kernel
theorem dX1_isSame_149 : decode cX1_isSame 149 = .ok (.iconst 4, 1) := by decide +kernel
theorem dX1_isSame_150 : decode cX1_isSame 150 = .ok (.if_icmp .le 7, 3) := by decide +kernel
theorem dX1_isSame_153 : decode cX1_isSame 153 = .ok (.iconst (-1), 1) := by decide +kernel
theorem dX1_isSame_154 : decode cX1_isSame 154 = .ok (.goto 4, 3) := by decide +kernel
theorem dX1_isSame_157 : decode cX1_isSame 157 = .ok (.iconst 0, 1) := by decide +kernel
theorem dX1_isSame_158 : decode cX1_isSame 158 = .ok (.iadd, 1) := by decide +kernel
theorem dX1_isSame_159 : decode cX1_isSame 159 = .ok (.iastore, 1) := by decide +kernel
theorem dX1_isSame_160 : decode cX1_isSame 160 = .ok (.aload 4, 2) := by decide +kernel
theorem dX1_isSame_162 : decode cX1_isSame 162 = .ok (.iload 14, 2) := by decide +kernel
theorem dX1_isSame_164 : decode cX1_isSame 164 = .ok (.iconst 1, 1) := by decide +kernel
theorem dX1_isSame_165 : decode cX1_isSame 165 = .ok (.iadd, 1) := by decide +kernel
theorem dX1_isSame_166 : decode cX1_isSame 166 = .ok (.dup2, 1) := by decide +kernel
theorem dX1_isSame_167 : decode cX1_isSame 167 = .ok (.iaload, 1) := by decide +kernel
theorem dX1_isSame_168 : decode cX1_isSame 168 = .ok (.iload 5, 2) := by decide +kernel
theorem dX1_isSame_170 : decode cX1_isSame 170 = .ok (.iconst 2, 1) := by decide +kernel
theorem dX1_isSame_171 : decode cX1_isSame 171 = .ok (.if_icmp .lt 10, 3) := by decide +kernel
theorem dX1_isSame_174 : decode cX1_isSame 174 = .ok (.iload 5, 2) := by decide +kernel
theorem dX1_isSame_176 : decode cX1_isSame 176 = .ok (.bipush 7, 2) := by decide +kernel
theorem dX1_isSame_178 : decode cX1_isSame 178 = .ok (.if_icmp .ne 7, 3) := by decide +kernel
theorem dX1_isSame_181 : decode cX1_isSame 181 = .ok (.iconst 1, 1) := by decide +kernel
theorem dX1_isSame_182 : decode cX1_isSame 182 = .ok (.goto 21, 3) := by decide +kernel
theorem dX1_isSame_185 : decode cX1_isSame 185 = .ok (.iload 5, 2) := by decide +kernel
theorem dX1_isSame_187 : decode cX1_isSame 187 = .ok (.iconst 2, 1) := by decide +kernel
theorem dX1_isSame_188 : decode cX1_isSame 188 = .ok (.if_icmp .le 14, 3) := by decide +kernel
theorem dX1_isSame_191 : decode cX1_isSame 191 = .ok (.iload 5, 2) := by decide +kernel
theorem dX1_isSame_193 : decode cX1_isSame 193 = .ok (.bipush 6, 2) := by decide +kernel
theorem dX1_isSame_195 : decode cX1_isSame 195 = .ok (.if_icmp .ge 7, 3) := by decide +kernel
theorem dX1_isSame_198 : decode cX1_isSame 198 = .ok (.iconst (-1), 1) := by decide +kernel
theorem dX1_isSame_199 : decode cX1_isSame 199 = .ok (.goto 4, 3) := by decide +kernel
theorem dX1_isSame_202 : decode cX1_isSame 202 = .ok (.iconst 0, 1) := by decide +kernel
theorem dX1_isSame_203 : decode cX1_isSame 203 = .ok (.iadd, 1) := by decide +kernel
theorem dX1_isSame_204 : decode cX1_isSame 204 = .ok (.iastore, 1) := by decide +kernel
theorem dX1_isSame_205 : decode cX1_isSame 205 = .ok (.iinc 17 1, 3) := by decide +kernel
theorem dX1_isSame_208 : decode cX1_isSame 208 = .ok (.goto (-92), 3) := by decide +kernel
theorem dX1_isSame_211 : decode cX1_isSame 211 = .ok (.iconst 0, 1) := by decide +kernel
theorem dX1_isSame_212 : decode cX1_isSame 212 = .ok (.istore 17, 2) := by decide +kernel
theorem dX1_isSame_214 : decode cX1_isSame 214 = .ok (.iconst 0, 1) := by decide +kernel
theorem dX1_isSame_215 : decode cX1_isSame 215 = .ok (.istore 18, 2) := by decide +kernel
theorem dX1_isSame_217 : decode cX1_isSame 217 = .ok (.iload 18, 2) := by decide +kernel
theorem dX1_isSame_219 : decode cX1_isSame 219 = .ok (.iload 14, 2) := by decide +kernel
theorem dX1_isSame_221 : decode cX1_isSame 221 = .ok (.if_icmp .gt 47, 3) := by decide +kernel
theorem dX1_isSame_224 : decode cX1_isSame 224 = .ok (.iload 17, 2) := by decide +kernel
theorem dX1_isSame_226 : decode cX1_isSame 226 = .ok (.aload_n 3, 1) := by decide +kernel
theorem dX1_isSame_227 : decode cX1_isSame 227 = .ok (.iload 18, 2) := by decide +kernel
theorem dX1_isSame_229 : decode cX1_isSame 229 = .ok (.iaload, 1) := by decide +kernel
theorem dX1_isSame_230 : decode cX1_isSame 230 = .ok (.aload_n 3, 1) := by decide +kernel
theorem dX1_isSame_231 : decode cX1_isSame 231 = .ok (.iload 14, 2) := by decide +kernel
theorem dX1_isSame_233 : decode cX1_isSame 233 = .ok (.iconst 1, 1) := by decide +kernel
theorem dX1_isSame_234 : decode cX1_isSame 234 = .ok (.iadd, 1) := by decide +kernel
theorem dX1_isSame_235 : decode cX1_isSame 235 = .ok (.iaload, 1) := by decide +kernel
theorem dX1_isSame_236 : decode cX1_isSame 236 = .ok (.if_icmp .ne 22, 3) := by decide +kernel
theorem dX1_isSame_239 : decode cX1_isSame 239 = .ok (.aload 4, 2) := by decide +kernel
theorem dX1_isSame_241 : decode cX1_isSame 241 = .ok (.iload 18, 2) := by decide +kernel
theorem dX1_isSame_243 : decode cX1_isSame 243 = .ok (.iaload, 1) := by decide +kernel
theorem dX1_isSame_244 : decode cX1_isSame 244 = .ok (.aload 4, 2) := by decide +kernel
theorem dX1_isSame_246 : decode cX1_isSame 246 = .ok (.iload 14, 2) := by decide +kernel
theorem dX1_isSame_248 : decode cX1_isSame 248 = .ok (.iconst 1, 1) := by decide +kernel
theorem dX1_isSame_249 : decode cX1_isSame 249 = .ok (.iadd, 1) := by decide +kernel
theorem dX1_isSame_250 : decode cX1_isSame 250 = .ok (.iaload, 1) := by decide +kernel
theorem dX1_isSame_251 : decode cX1_isSame 251 = .ok (.if_icmp .ne 7, 3) := by decide +kernel
theorem dX1_isSame_254 : decode cX1_isSame 254 = .ok (.iconst 1, 1) := by decide +kernel
theorem dX1_isSame_255 : decode cX1_isSame 255 = .ok (.goto 4, 3) := by decide +kernel
theorem dX1_isSame_258 : decode cX1_isSame 258 = .ok (.iconst 0, 1) := by decide +kernel
theorem dX1_isSame_259 : decode cX1_isSame 259 = .ok (.ior, 1) := by decide +kernel
theorem dX1_isSame_260 : decode cX1_isSame 260 = .ok (.istore 17, 2) := by decide +kernel
theorem dX1_isSame_262 : decode cX1_isSame 262 = .ok (.iinc 18 1, 3) := by decide +kernel
theorem dX1_isSame_265 : decode cX1_isSame 265 = .ok (.goto (-48), 3) := by decide +kernel
theorem dX1_isSame_268 : decode cX1_isSame 268 = .ok (.iload 8, 2) := by decide +kernel
theorem dX1_isSame_270 : decode cX1_isSame 270 = .ok (.iload 17, 2) := by decide +kernel
theorem dX1_isSame_272 : decode cX1_isSame 272 = .ok (.ifCond .eq 7, 3) := by decide +kernel
theorem dX1_isSame_275 : decode cX1_isSame 275 = .ok (.iconst 1, 1) := by decide +kernel
theorem dX1_isSame_276 : decode cX1_isSame 276 = .ok (.goto 4, 3) := by decide +kernel
theorem dX1_isSame_279 : decode cX1_isSame 279 = .ok (.iconst 0, 1) := by decide +kernel
theorem dX1_isSame_280 : decode cX1_isSame 280 = .ok (.iadd, 1) := by decide +kernel
theorem dX1_isSame_281 : decode cX1_isSame 281 = .ok (.istore 8, 2) := by decide +kernel
theorem dX1_isSame_283 : decode cX1_isSame 283 = .ok (.iload 6, 2) := by decide +kernel
theorem dX1_isSame_285 : decode cX1_isSame 285 = .ok (.aload 15, 2) := by decide +kernel
theorem dX1_isSame_287 : decode cX1_isSame 287 = .ok (.iconst 1, 1) := by decide +kernel
theorem dX1_isSame_288 : decode cX1_isSame 288 = .ok (.iaload, 1) := by decide +kernel
theorem dX1_isSame_289 : decode cX1_isSame 289 = .ok (.iadd, 1) := by decide +kernel
theorem dX1_isSame_290 : decode cX1_isSame 290 = .ok (.istore 6, 2) := by decide +kernel
theorem dX1_isSame_292 : decode cX1_isSame 292 = .ok (.iload 7, 2) := by decide +kernel
theorem dX1_isSame_294 : decode cX1_isSame 294 = .ok (.aload 15, 2) := by decide +kernel
theorem dX1_isSame_296 : decode cX1_isSame 296 = .ok (.iconst 4, 1) := by decide +kernel
theorem dX1_isSame_297 : decode cX1_isSame 297 = .ok (.iaload, 1) := by decide +kernel
theorem dX1_isSame_298 : decode cX1_isSame 298 = .ok (.iadd, 1) := by decide +kernel
theorem dX1_isSame_299 : decode cX1_isSame 299 = .ok (.istore 7, 2) := by decide +kernel
theorem dX1_isSame_301 : decode cX1_isSame 301 = .ok (.iload 9, 2) := by decide +kernel
theorem dX1_isSame_303 : decode cX1_isSame 303 = .ok (.aload 15, 2) := by decide +kernel
theorem dX1_isSame_305 : decode cX1_isSame 305 = .ok (.iconst 3, 1) := by decide +kernel
theorem dX1_isSame_306 : decode cX1_isSame 306 = .ok (.iaload, 1) := by decide +kernel
theorem dX1_isSame_307 : decode cX1_isSame 307 = .ok (.invokestatic 57, 3) := by decide +kernel
theorem dX1_isSame_310 : decode cX1_isSame 310 = .ok (.istore 9, 2) := by decide +kernel
theorem dX1_isSame_312 : decode cX1_isSame 312 = .ok (.iload 10, 2) := by decide +kernel
theorem dX1_isSame_314 : decode cX1_isSame 314 = .ok (.aload 15, 2) := by decide +kernel
theorem dX1_isSame_316 : decode cX1_isSame 316 = .ok (.iconst 3, 1) := by decide +kernel
theorem dX1_isSame_317 : decode cX1_isSame 317 = .ok (.iaload, 1) := by decide +kernel
theorem dX1_isSame_318 : decode cX1_isSame 318 = .ok (.invokestatic 62, 3) := by decide +kernel
theorem dX1_isSame_321 : decode cX1_isSame 321 = .ok (.istore 10, 2) := by decide +kernel
theorem dX1_isSame_323 : decode cX1_isSame 323 = .ok (.iload 11, 2) := by decide +kernel
theorem dX1_isSame_325 : decode cX1_isSame 325 = .ok (.aload 15, 2) := by decide +kernel
theorem dX1_isSame_327 : decode cX1_isSame 327 = .ok (.iconst 3, 1) := by decide +kernel
theorem dX1_isSame_328 : decode cX1_isSame 328 = .ok (.iaload, 1) := by decide +kernel
theorem dX1_isSame_329 : decode cX1_isSame 329 = .ok (.iadd, 1) := by decide +kernel
theorem dX1_isSame_330 : decode cX1_isSame 330 = .ok (.istore 11, 2) := by decide +kernel
theorem dX1_isSame_332 : decode cX1_isSame 332 = .ok (.aload 13, 2) := by decide +kernel
theorem dX1_isSame_334 : decode cX1_isSame 334 = .ok (.aload_n 0, 1) := by decide +kernel
theorem dX1_isSame_335 : decode cX1_isSame 335 = .ok (.getfield 15, 3) := by decide +kernel
theorem dX1_isSame_338 : decode cX1_isSame 338 = .ok (.aload 15, 2) := by decide +kernel
theorem dX1_isSame_340 : decode cX1_isSame 340 = .ok (.iconst 2, 1) := by decide +kernel
theorem dX1_isSame_341 : decode cX1_isSame 341 = .ok (.iaload, 1) := by decide +kernel
theorem dX1_isSame_342 : decode cX1_isSame 342 = .ok (.iaload, 1) := by decide +kernel
theorem dX1_isSame_343 : decode cX1_isSame 343 = .ok (.dup2, 1) := by decide +kernel
theorem dX1_isSame_344 : decode cX1_isSame 344 = .ok (.iaload, 1) := by decide +kernel
theorem dX1_isSame_345 : decode cX1_isSame 345 = .ok (.iconst 1, 1) := by decide +kernel
theorem dX1_isSame_346 : decode cX1_isSame 346 = .ok (.iadd, 1) := by decide +kernel
theorem dX1_isSame_347 : decode cX1_isSame 347 = .ok (.iastore, 1) := by decide +kernel
theorem dX1_isSame_348 : decode cX1_isSame 348 = .ok (.iload 12, 2) := by decide +kernel
theorem dX1_isSame_350 : decode cX1_isSame 350 = .ok (.ifCond .ge 16, 3) := by decide +kernel
theorem dX1_isSame_353 : decode cX1_isSame 353 = .ok (.aload_n 0, 1) := by decide +kernel
theorem dX1_isSame_354 : decode cX1_isSame 354 = .ok (.iload 14, 2) := by decide +kernel
theorem dX1_isSame_356 : decode cX1_isSame 356 = .ok (.invokevirtual 39, 3) := by decide +kernel
theorem dX1_isSame_359 : decode cX1_isSame 359 = .ok (.ifCond .eq 7, 3) := by decide +kernel
theorem dX1_isSame_362 : decode cX1_isSame 362 = .ok (.iload 14, 2) := by decide +kernel
theorem dX1_isSame_364 : decode cX1_isSame 364 = .ok (.istore 12, 2) := by decide +kernel
theorem dX1_isSame_366 : decode cX1_isSame 366 = .ok (.aload_n 1, 1) := by decide +kernel
theorem dX1_isSame_367 : decode cX1_isSame 367 = .ok (.iload 14, 2) := by decide +kernel
theorem dX1_isSame_369 : decode cX1_isSame 369 = .ok (.invokevirtual 65, 3) := by decide +kernel
theorem dX1_isSame_372 : decode cX1_isSame 372 = .ok (.aload 15, 2) := by decide +kernel
theorem dX1_isSame_374 : decode cX1_isSame 374 = .ok (.iconst 0, 1) := by decide +kernel
theorem dX1_isSame_375 : decode cX1_isSame 375 = .ok (.iaload, 1) := by decide +kernel
theorem dX1_isSame_376 : decode cX1_isSame 376 = .ok (.if_icmp .ne 143, 3) := by decide +kernel
theorem dX1_isSame_379 : decode cX1_isSame 379 = .ok (.aload_n 1, 1) := by decide +kernel
theorem dX1_isSame_380 : decode cX1_isSame 380 = .ok (.iload 14, 2) := by decide +kernel
theorem dX1_isSame_382 : decode cX1_isSame 382 = .ok (.invokevirtual 70, 3) := by decide +kernel
theorem dX1_isSame_385 : decode cX1_isSame 385 = .ok (.iload 5, 2) := by decide +kernel
theorem dX1_isSame_387 : decode cX1_isSame 387 = .ok (.if_icmp .ne 132, 3) := by decide +kernel
theorem dX1_isSame_390 : decode cX1_isSame 390 = .ok (.aload_n 1, 1) := by decide +kernel
theorem dX1_isSame_391 : decode cX1_isSame 391 = .ok (.iload 14, 2) := by decide +kernel
theorem dX1_isSame_393 : decode cX1_isSame 393 = .ok (.invokevirtual 73, 3) := by decide +kernel
theorem dX1_isSame_396 : decode cX1_isSame 396 = .ok (.aload 15, 2) := by decide +kernel
theorem dX1_isSame_398 : decode cX1_isSame 398 = .ok (.iconst 2, 1) := by decide +kernel
theorem dX1_isSame_399 : decode cX1_isSame 399 = .ok (.iaload, 1) := by decide +kernel
theorem dX1_isSame_400 : decode cX1_isSame 400 = .ok (.if_icmp .ne 119, 3) := by decide +kernel
theorem dX1_isSame_403 : decode cX1_isSame 403 = .ok (.aload_n 1, 1) := by decide +kernel
theorem dX1_isSame_404 : decode cX1_isSame 404 = .ok (.iload 14, 2) := by decide +kernel
theorem dX1_isSame_406 : decode cX1_isSame 406 = .ok (.invokevirtual 76, 3) := by decide +kernel
theorem dX1_isSame_409 : decode cX1_isSame 409 = .ok (.aload 15, 2) := by decide +kernel
theorem dX1_isSame_411 : decode cX1_isSame 411 = .ok (.iconst 3, 1) := by decide +kernel
theorem dX1_isSame_412 : decode cX1_isSame 412 = .ok (.iaload, 1) := by decide +kernel
theorem dX1_isSame_413 : decode cX1_isSame 413 = .ok (.if_icmp .ne 106, 3) := by decide +kernel
theorem dX1_isSame_416 : decode cX1_isSame 416 = .ok (.aload_n 1, 1) := by decide +kernel
theorem dX1_isSame_417 : decode cX1_isSame 417 = .ok (.iload 14, 2) := by decide +kernel
theorem dX1_isSame_419 : decode cX1_isSame 419 = .ok (.invokevirtual 79, 3) := by decide +kernel
theorem dX1_isSame_422 : decode cX1_isSame 422 = .ok (.aload 15, 2) := by decide +kernel
theorem dX1_isSame_424 : decode cX1_isSame 424 = .ok (.iconst 4, 1) := by decide +kernel
theorem dX1_isSame_425 : decode cX1_isSame 425 = .ok (.iaload, 1) := by decide +kernel
theorem dX1_isSame_426 : decode cX1_isSame 426 = .ok (.iconst 1, 1) := by decide +kernel
theorem dX1_isSame_427 : decode cX1_isSame 427 = .ok (.if_icmp .ne 7, 3) := by decide +kernel
theorem dX1_isSame_430 : decode cX1_isSame 430 = .ok (.iconst 1, 1) := by decide +kernel
theorem dX1_isSame_431 : decode cX1_isSame 431 = .ok (.goto 4, 3) := by decide +kernel
theorem dX1_isSame_434 : decode cX1_isSame 434 = .ok (.iconst 0, 1) := by decide +kernel
theorem dX1_isSame_435 : decode cX1_isSame 435 = .ok (.if_icmp .ne 84, 3) := by decide +kernel
theorem dX1_isSame_438 : decode cX1_isSame 438 = .ok (.aload_n 1, 1) := by decide +kernel
theorem dX1_isSame_439 : decode cX1_isSame 439 = .ok (.iload 14, 2) := by decide +kernel
theorem dX1_isSame_441 : decode cX1_isSame 441 = .ok (.invokevirtual 82, 3) := by decide +kernel
theorem dX1_isSame_444 : decode cX1_isSame 444 = .ok (.aload_n 0, 1) := by decide +kernel
theorem dX1_isSame_445 : decode cX1_isSame 445 = .ok (.getfield 15, 3) := by decide +kernel
theorem dX1_isSame_448 : decode cX1_isSame 448 = .ok (.aload 15, 2) := by decide +kernel
theorem dX1_isSame_450 : decode cX1_isSame 450 = .ok (.iconst 2, 1) := by decide +kernel
theorem dX1_isSame_451 : decode cX1_isSame 451 = .ok (.iaload, 1) := by decide +kernel
theorem dX1_isSame_452 : decode cX1_isSame 452 = .ok (.iaload, 1) := by decide +kernel
theorem dX1_isSame_453 : decode cX1_isSame 453 = .ok (.if_icmp .ne 66, 3) := by decide +kernel
theorem dX1_isSame_456 : decode cX1_isSame 456 = .ok (.aload_n 1, 1) := by decide +kernel
theorem dX1_isSame_457 : decode cX1_isSame 457 = .ok (.iload 14, 2) := by decide +kernel
theorem dX1_isSame_459 : decode cX1_isSame 459 = .ok (.invokevirtual 85, 3) := by decide +kernel
theorem dX1_isSame_462 : decode cX1_isSame 462 = .ok (.aload 16, 2) := by decide +kernel
theorem dX1_isSame_464 : decode cX1_isSame 464 = .ok (.iconst 0, 1) := by decide +kernel
theorem dX1_isSame_465 : decode cX1_isSame 465 = .ok (.iaload, 1) := by decide +kernel
theorem dX1_isSame_466 : decode cX1_isSame 466 = .ok (.if_icmp .ne 53, 3) := by decide +kernel
theorem dX1_isSame_469 : decode cX1_isSame 469 = .ok (.aload_n 1, 1) := by decide +kernel
theorem dX1_isSame_470 : decode cX1_isSame 470 = .ok (.iload 14, 2) := by decide +kernel
theorem dX1_isSame_472 : decode cX1_isSame 472 = .ok (.invokevirtual 87, 3) := by decide +kernel
theorem dX1_isSame_475 : decode cX1_isSame 475 = .ok (.aload 16, 2) := by decide +kernel
theorem dX1_isSame_477 : decode cX1_isSame 477 = .ok (.iconst 1, 1) := by decide +kernel
theorem dX1_isSame_478 : decode cX1_isSame 478 = .ok (.iaload, 1) := by decide +kernel
theorem dX1_isSame_479 : decode cX1_isSame 479 = .ok (.if_icmp .ne 40, 3) := by decide +kernel
theorem dX1_isSame_482 : decode cX1_isSame 482 = .ok (.aload_n 1, 1) := by decide +kernel
theorem dX1_isSame_483 : decode cX1_isSame 483 = .ok (.iload 14, 2) := by decide +kernel
theorem dX1_isSame_485 : decode cX1_isSame 485 = .ok (.invokevirtual 90, 3) := by decide +kernel
theorem dX1_isSame_488 : decode cX1_isSame 488 = .ok (.aload_n 0, 1) := by decide +kernel
theorem dX1_isSame_489 : decode cX1_isSame 489 = .ok (.iload 14, 2) := by decide +kernel
theorem dX1_isSame_491 : decode cX1_isSame 491 = .ok (.invokevirtual 39, 3) := by decide +kernel
theorem dX1_isSame_494 : decode cX1_isSame 494 = .ok (.if_icmp .ne 25, 3) := by decide +kernel
theorem dX1_isSame_497 : decode cX1_isSame 497 = .ok (.aload_n 1, 1) := by decide +kernel
theorem dX1_isSame_498 : decode cX1_isSame 498 = .ok (.iload 14, 2) := by decide +kernel
theorem dX1_isSame_500 : decode cX1_isSame 500 = .ok (.invokevirtual 93, 3) := by decide +kernel
theorem dX1_isSame_503 : decode cX1_isSame 503 = .ok (.aload 15, 2) := by decide +kernel
theorem dX1_isSame_505 : decode cX1_isSame 505 = .ok (.iconst 5, 1) := by decide +kernel
theorem dX1_isSame_506 : decode cX1_isSame 506 = .ok (.iaload, 1) := by decide +kernel
theorem dX1_isSame_507 : decode cX1_isSame 507 = .ok (.iconst 1, 1) := by decide +kernel
theorem dX1_isSame_508 : decode cX1_isSame 508 = .ok (.if_icmp .ne 7, 3) := by decide +kernel
theorem dX1_isSame_511 : decode cX1_isSame 511 = .ok (.iconst 1, 1) := by decide +kernel
theorem dX1_isSame_512 : decode cX1_isSame 512 = .ok (.goto 4, 3) := by decide +kernel
theorem dX1_isSame_515 : decode cX1_isSame 515 = .ok (.iconst 0, 1) := by decide +kernel
theorem dX1_isSame_516 : decode cX1_isSame 516 = .ok (.if_icmp .eq 5, 3) := by decide +kernel
theorem dX1_isSame_519 : decode cX1_isSame 519 = .ok (.iconst 0, 1) := by decide +kernel
theorem dX1_isSame_520 : decode cX1_isSame 520 = .ok (.ireturn, 1) := by decide +kernel
theorem dX1_isSame_521 : decode cX1_isSame 521 = .ok (.iinc 14 1, 3) := by decide +kernel
theorem dX1_isSame_524 : decode cX1_isSame 524 = .ok (.goto (-471), 3) := by decide +kernel
theorem dX1_isSame_527 : decode cX1_isSame 527 = .ok (.iconst 0, 1) := by decide +kernel
theorem dX1_isSame_528 : decode cX1_isSame 528 = .ok (.istore 14, 2) := by decide +kernel
theorem dX1_isSame_530 : decode cX1_isSame 530 = .ok (.iload 14, 2) := by decide +kernel
theorem dX1_isSame_532 : decode cX1_isSame 532 = .ok (.bipush 10, 2) := by decide +kernel
theorem dX1_isSame_534 : decode cX1_isSame 534 = .ok (.if_icmp .ge 41, 3) := by decide +kernel
theorem dX1_isSame_537 : decode cX1_isSame 537 = .ok (.aload_n 1, 1) := by decide +kernel
theorem dX1_isSame_538 : decode cX1_isSame 538 = .ok (.iload 14, 2) := by decide +kernel
theorem dX1_isSame_540 : decode cX1_isSame 540 = .ok (.invokevirtual 96, 3) := by decide +kernel
theorem dX1_isSame_543 : decode cX1_isSame 543 = .ok (.aload_n 0, 1) := by decide +kernel
theorem dX1_isSame_544 : decode cX1_isSame 544 = .ok (.getfield 15, 3) := by decide +kernel
theorem dX1_isSame_547 : decode cX1_isSame 547 = .ok (.iload 14, 2) := by decide +kernel
theorem dX1_isSame_549 : decode cX1_isSame 549 = .ok (.iaload, 1) := by decide +kernel
theorem dX1_isSame_550 : decode cX1_isSame 550 = .ok (.if_icmp .ne 17, 3) := by decide +kernel
theorem dX1_isSame_553 : decode cX1_isSame 553 = .ok (.aload_n 1, 1) := by decide +kernel
theorem dX1_isSame_554 : decode cX1_isSame 554 = .ok (.iload 14, 2) := by decide +kernel
theorem dX1_isSame_556 : decode cX1_isSame 556 = .ok (.invokevirtual 99, 3) := by decide +kernel
theorem dX1_isSame_559 : decode cX1_isSame 559 = .ok (.aload 13, 2) := by decide +kernel
theorem dX1_isSame_561 : decode cX1_isSame 561 = .ok (.iload 14, 2) := by decide +kernel
theorem dX1_isSame_563 : decode cX1_isSame 563 = .ok (.iaload, 1) := by decide +kernel
theorem dX1_isSame_564 : decode cX1_isSame 564 = .ok (.if_icmp .eq 5, 3) := by decide +kernel
theorem dX1_isSame_567 : decode cX1_isSame 567 = .ok (.iconst 0, 1) := by decide +kernel
theorem dX1_isSame_568 : decode cX1_isSame 568 = .ok (.ireturn, 1) := by decide +kernel
theorem dX1_isSame_569 : decode cX1_isSame 569 = .ok (.iinc 14 1, 3) := by decide +kernel
theorem dX1_isSame_572 : decode cX1_isSame 572 = .ok (.goto (-42), 3) := by decide +kernel
theorem dX1_isSame_575 : decode cX1_isSame 575 = .ok (.aload_n 1, 1) := by decide +kernel
theorem dX1_isSame_576 : decode cX1_isSame 576 = .ok (.invokevirtual 102, 3) := by decide +kernel
theorem dX1_isSame_579 : decode cX1_isSame 579 = .ok (.iload_n 2, 1) := by decide +kernel
theorem dX1_isSame_580 : decode cX1_isSame 580 = .ok (.if_icmp .ne 163, 3) := by decide +kernel
theorem dX1_isSame_583 : decode cX1_isSame 583 = .ok (.aload_n 1, 1) := by decide +kernel
theorem dX1_isSame_584 : decode cX1_isSame 584 = .ok (.invokevirtual 104, 3) := by decide +kernel
theorem dX1_isSame_587 : decode cX1_isSame 587 = .ok (.aload_n 0, 1) := by decide +kernel
theorem dX1_isSame_588 : decode cX1_isSame 588 = .ok (.getfield 18, 3) := by decide +kernel
theorem dX1_isSame_591 : decode cX1_isSame 591 = .ok (.if_icmp .ne 152, 3) := by decide +kernel
theorem dX1_isSame_594 : decode cX1_isSame 594 = .ok (.aload_n 1, 1) := by decide +kernel
theorem dX1_isSame_595 : decode cX1_isSame 595 = .ok (.invokevirtual 106, 3) := by decide +kernel
theorem dX1_isSame_598 : decode cX1_isSame 598 = .ok (.aload_n 3, 1) := by decide +kernel
theorem dX1_isSame_599 : decode cX1_isSame 599 = .ok (.iload_n 2, 1) := by decide +kernel
theorem dX1_isSame_600 : decode cX1_isSame 600 = .ok (.iaload, 1) := by decide +kernel
theorem dX1_isSame_601 : decode cX1_isSame 601 = .ok (.if_icmp .ne 142, 3) := by decide +kernel
theorem dX1_isSame_604 : decode cX1_isSame 604 = .ok (.aload_n 1, 1) := by decide +kernel
theorem dX1_isSame_605 : decode cX1_isSame 605 = .ok (.invokevirtual 109, 3) := by decide +kernel
theorem dX1_isSame_608 : decode cX1_isSame 608 = .ok (.aload 4, 2) := by decide +kernel
theorem dX1_isSame_610 : decode cX1_isSame 610 = .ok (.iload_n 2, 1) := by decide +kernel
theorem dX1_isSame_611 : decode cX1_isSame 611 = .ok (.iaload, 1) := by decide +kernel
theorem dX1_isSame_612 : decode cX1_isSame 612 = .ok (.if_icmp .ne 131, 3) := by decide +kernel
theorem dX1_isSame_615 : decode cX1_isSame 615 = .ok (.aload_n 1, 1) := by decide +kernel
theorem dX1_isSame_616 : decode cX1_isSame 616 = .ok (.invokevirtual 112, 3) := by decide +kernel
theorem dX1_isSame_619 : decode cX1_isSame 619 = .ok (.aload_n 3, 1) := by decide +kernel
theorem dX1_isSame_620 : decode cX1_isSame 620 = .ok (.iload_n 2, 1) := by decide +kernel
theorem dX1_isSame_621 : decode cX1_isSame 621 = .ok (.iaload, 1) := by decide +kernel
theorem dX1_isSame_622 : decode cX1_isSame 622 = .ok (.invokestatic 115, 3) := by decide +kernel
theorem dX1_isSame_625 : decode cX1_isSame 625 = .ok (.aload 4, 2) := by decide +kernel
theorem dX1_isSame_627 : decode cX1_isSame 627 = .ok (.iload_n 2, 1) := by decide +kernel
theorem dX1_isSame_628 : decode cX1_isSame 628 = .ok (.iaload, 1) := by decide +kernel
theorem dX1_isSame_629 : decode cX1_isSame 629 = .ok (.invokestatic 115, 3) := by decide +kernel
theorem dX1_isSame_632 : decode cX1_isSame 632 = .ok (.invokestatic 62, 3) := by decide +kernel
theorem dX1_isSame_635 : decode cX1_isSame 635 = .ok (.if_icmp .ne 108, 3) := by decide +kernel
theorem dX1_isSame_638 : decode cX1_isSame 638 = .ok (.aload_n 1, 1) := by decide +kernel
theorem dX1_isSame_639 : decode cX1_isSame 639 = .ok (.invokevirtual 118, 3) := by decide +kernel
theorem dX1_isSame_642 : decode cX1_isSame 642 = .ok (.iload 8, 2) := by decide +kernel
theorem dX1_isSame_644 : decode cX1_isSame 644 = .ok (.if_icmp .ne 99, 3) := by decide +kernel
theorem dX1_isSame_647 : decode cX1_isSame 647 = .ok (.aload_n 1, 1) := by decide +kernel
theorem dX1_isSame_648 : decode cX1_isSame 648 = .ok (.invokevirtual 121, 3) := by decide +kernel
theorem dX1_isSame_651 : decode cX1_isSame 651 = .ok (.iload 6, 2) := by decide +kernel
theorem dX1_isSame_653 : decode cX1_isSame 653 = .ok (.if_icmp .ne 90, 3) := by decide +kernel
theorem dX1_isSame_656 : decode cX1_isSame 656 = .ok (.aload_n 1, 1) := by decide +kernel
theorem dX1_isSame_657 : decode cX1_isSame 657 = .ok (.invokevirtual 124, 3) := by decide +kernel
theorem dX1_isSame_660 : decode cX1_isSame 660 = .ok (.iload 7, 2) := by decide +kernel
theorem dX1_isSame_662 : decode cX1_isSame 662 = .ok (.if_icmp .ne 81, 3) := by decide +kernel
theorem dX1_isSame_665 : decode cX1_isSame 665 = .ok (.aload_n 1, 1) := by decide +kernel
theorem dX1_isSame_666 : decode cX1_isSame 666 = .ok (.invokevirtual 127, 3) := by decide +kernel
theorem dX1_isSame_669 : decode cX1_isSame 669 = .ok (.iload_n 2, 1) := by decide +kernel
theorem dX1_isSame_670 : decode cX1_isSame 670 = .ok (.ifCond .ne 7, 3) := by decide +kernel
theorem dX1_isSame_673 : decode cX1_isSame 673 = .ok (.iconst 0, 1) := by decide +kernel
theorem dX1_isSame_674 : decode cX1_isSame 674 = .ok (.goto 8, 3) := by decide +kernel
theorem dX1_isSame_677 : decode cX1_isSame 677 = .ok (.iload 10, 2) := by decide +kernel
theorem dX1_isSame_679 : decode cX1_isSame 679 = .ok (.iload 9, 2) := by decide +kernel
theorem dX1_isSame_681 : decode cX1_isSame 681 = .ok (.isub, 1) := by decide +kernel
theorem dX1_isSame_682 : decode cX1_isSame 682 = .ok (.if_icmp .ne 61, 3) := by decide +kernel
theorem dX1_isSame_685 : decode cX1_isSame 685 = .ok (.aload_n 1, 1) := by decide +kernel
theorem dX1_isSame_686 : decode cX1_isSame 686 = .ok (.invokevirtual 130, 3) := by decide +kernel
theorem dX1_isSame_689 : decode cX1_isSame 689 = .ok (.aload_n 0, 1) := by decide +kernel
theorem dX1_isSame_690 : decode cX1_isSame 690 = .ok (.invokevirtual 53, 3) := by decide +kernel
theorem dX1_isSame_693 : decode cX1_isSame 693 = .ok (.if_icmp .ne 50, 3) := by decide +kernel
theorem dX1_isSame_696 : decode cX1_isSame 696 = .ok (.aload_n 1, 1) := by decide +kernel
theorem dX1_isSame_697 : decode cX1_isSame 697 = .ok (.invokevirtual 133, 3) := by decide +kernel
theorem dX1_isSame_700 : decode cX1_isSame 700 = .ok (.aload_n 0, 1) := by decide +kernel
theorem dX1_isSame_701 : decode cX1_isSame 701 = .ok (.invokevirtual 137, 3) := by decide +kernel
theorem dX1_isSame_704 : decode cX1_isSame 704 = .ok (.lcmp, 1) := by decide +kernel
theorem dX1_isSame_705 : decode cX1_isSame 705 = .ok (.ifCond .ne 38, 3) := by decide +kernel
theorem dX1_isSame_708 : decode cX1_isSame 708 = .ok (.aload_n 1, 1) := by decide +kernel
theorem dX1_isSame_709 : decode cX1_isSame 709 = .ok (.invokevirtual 138, 3) := by decide +kernel
theorem dX1_isSame_712 : decode cX1_isSame 712 = .ok (.iload 12, 2) := by decide +kernel
theorem dX1_isSame_714 : decode cX1_isSame 714 = .ok (.if_icmp .ne 29, 3) := by decide +kernel
theorem dX1_isSame_717 : decode cX1_isSame 717 = .ok (.aload_n 1, 1) := by decide +kernel
theorem dX1_isSame_718 : decode cX1_isSame 718 = .ok (.invokevirtual 141, 3) := by decide +kernel
theorem dX1_isSame_721 : decode cX1_isSame 721 = .ok (.iload_n 2, 1) := by decide +kernel
theorem dX1_isSame_722 : decode cX1_isSame 722 = .ok (.ifCond .ne 7, 3) := by decide +kernel
theorem dX1_isSame_725 : decode cX1_isSame 725 = .ok (.dconst 0, 1) := by decide +kernel
theorem dX1_isSame_726 : decode cX1_isSame 726 = .ok (.goto 9, 3) := by decide +kernel
theorem dX1_isSame_729 : decode cX1_isSame 729 = .ok (.iload 11, 2) := by decide +kernel
theorem dX1_isSame_731 : decode cX1_isSame 731 = .ok (.i2d, 1) := by decide +kernel
theorem dX1_isSame_732 : decode cX1_isSame 732 = .ok (.iload_n 2, 1) := by decide +kernel
theorem dX1_isSame_733 : decode cX1_isSame 733 = .ok (.i2d, 1) := by decide +kernel
theorem dX1_isSame_734 : decode cX1_isSame 734 = .ok (.ddiv, 1) := by decide +kernel
theorem dX1_isSame_735 : decode cX1_isSame 735 = .ok (.dcmp .l, 1) := by decide +kernel
theorem dX1_isSame_736 : decode cX1_isSame 736 = .ok (.ifCond .ne 7, 3) := by decide +kernel
theorem dX1_isSame_739 : decode cX1_isSame 739 = .ok (.iconst 1, 1) := by decide +kernel
theorem dX1_isSame_740 : decode cX1_isSame 740 = .ok (.goto 4, 3) := by decide +kernel
theorem dX1_isSame_743 : decode cX1_isSame 743 = .ok (.iconst 0, 1) := by decide +kernel
theorem dX1_isSame_744 : decode cX1_isSame 744 = .ok (.ireturn, 1) := by decide +kernel
