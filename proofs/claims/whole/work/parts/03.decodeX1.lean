theorem dX1_init_0 : decode cX1_init 0 = .ok (.aload_n 0, 1) := by decide +kernel
theorem dX1_init_1 : decode cX1_init 1 = .ok (.invokespecial 1, 3) := by decide +kernel
theorem dX1_init_4 : decode cX1_init 4 = .ok (.aload_n 0, 1) := by decide +kernel
theorem dX1_init_5 : decode cX1_init 5 = .ok (.iconst 2, 1) := by decide +kernel
theorem dX1_init_6 : decode cX1_init 6 = .ok (.putfield 7, 3) := by decide +kernel
theorem dX1_init_9 : decode cX1_init 9 = .ok (.aload_n 0, 1) := by decide +kernel
theorem dX1_init_10 : decode cX1_init 10 = .ok (.bipush 16, 2) := by decide +kernel
theorem dX1_init_12 : decode cX1_init 12 = .ok (.newarray .int, 2) := by decide +kernel
theorem dX1_init_14 : decode cX1_init 14 = .ok (.putfield 13, 3) := by decide +kernel
theorem dX1_init_17 : decode cX1_init 17 = .ok (.aload_n 0, 1) := by decide +kernel
theorem dX1_init_18 : decode cX1_init 18 = .ok (.bipush 16, 2) := by decide +kernel
theorem dX1_init_20 : decode cX1_init 20 = .ok (.newarray .int, 2) := by decide +kernel
theorem dX1_init_22 : decode cX1_init 22 = .ok (.putfield 17, 3) := by decide +kernel
theorem dX1_init_25 : decode cX1_init 25 = .ok (.aload_n 0, 1) := by decide +kernel
theorem dX1_init_26 : decode cX1_init 26 = .ok (.bipush 16, 2) := by decide +kernel
theorem dX1_init_28 : decode cX1_init 28 = .ok (.newarray .int, 2) := by decide +kernel
theorem dX1_init_30 : decode cX1_init 30 = .ok (.putfield 20, 3) := by decide +kernel
theorem dX1_init_33 : decode cX1_init 33 = .ok (.aload_n 0, 1) := by decide +kernel
theorem dX1_init_34 : decode cX1_init 34 = .ok (.bipush 10, 2) := by decide +kernel
theorem dX1_init_36 : decode cX1_init 36 = .ok (.newarray .int, 2) := by decide +kernel
theorem dX1_init_38 : decode cX1_init 38 = .ok (.dup, 1) := by decide +kernel
theorem dX1_init_39 : decode cX1_init 39 = .ok (.iconst 0, 1) := by decide +kernel
theorem dX1_init_40 : decode cX1_init 40 = .ok (.iconst 0, 1) := by decide +kernel
theorem dX1_init_41 : decode cX1_init 41 = .ok (.iastore, 1) := by decide +kernel
theorem dX1_init_42 : decode cX1_init 42 = .ok (.dup, 1) := by decide +kernel
theorem dX1_init_43 : decode cX1_init 43 = .ok (.iconst 1, 1) := by decide +kernel
theorem dX1_init_44 : decode cX1_init 44 = .ok (.iconst 1, 1) := by decide +kernel
theorem dX1_init_45 : decode cX1_init 45 = .ok (.iastore, 1) := by decide +kernel
theorem dX1_init_46 : decode cX1_init 46 = .ok (.dup, 1) := by decide +kernel
theorem dX1_init_47 : decode cX1_init 47 = .ok (.iconst 2, 1) := by decide +kernel
theorem dX1_init_48 : decode cX1_init 48 = .ok (.iconst 2, 1) := by decide +kernel
theorem dX1_init_49 : decode cX1_init 49 = .ok (.iastore, 1) := by decide +kernel
theorem dX1_init_50 : decode cX1_init 50 = .ok (.dup, 1) := by decide +kernel
theorem dX1_init_51 : decode cX1_init 51 = .ok (.iconst 3, 1) := by decide +kernel
theorem dX1_init_52 : decode cX1_init 52 = .ok (.iconst 3, 1) := by decide +kernel
theorem dX1_init_53 : decode cX1_init 53 = .ok (.iastore, 1) := by decide +kernel
theorem dX1_init_54 : decode cX1_init 54 = .ok (.dup, 1) := by decide +kernel
theorem dX1_init_55 : decode cX1_init 55 = .ok (.iconst 4, 1) := by decide +kernel
theorem dX1_init_56 : decode cX1_init 56 = .ok (.iconst 4, 1) := by decide +kernel
theorem dX1_init_57 : decode cX1_init 57 = .ok (.iastore, 1) := by decide +kernel
theorem dX1_init_58 : decode cX1_init 58 = .ok (.dup, 1) := by decide +kernel
theorem dX1_init_59 : decode cX1_init 59 = .ok (.iconst 5, 1) := by decide +kernel
theorem dX1_init_60 : decode cX1_init 60 = .ok (.iconst 5, 1) := by decide +kernel
theorem dX1_init_61 : decode cX1_init 61 = .ok (.iastore, 1) := by decide +kernel
theorem dX1_init_62 : decode cX1_init 62 = .ok (.dup, 1) := by decide +kernel
theorem dX1_init_63 : decode cX1_init 63 = .ok (.bipush 6, 2) := by decide +kernel
theorem dX1_init_65 : decode cX1_init 65 = .ok (.bipush 6, 2) := by decide +kernel
theorem dX1_init_67 : decode cX1_init 67 = .ok (.iastore, 1) := by decide +kernel
theorem dX1_init_68 : decode cX1_init 68 = .ok (.dup, 1) := by decide +kernel
theorem dX1_init_69 : decode cX1_init 69 = .ok (.bipush 7, 2) := by decide +kernel
theorem dX1_init_71 : decode cX1_init 71 = .ok (.bipush 7, 2) := by decide +kernel
theorem dX1_init_73 : decode cX1_init 73 = .ok (.iastore, 1) := by decide +kernel
theorem dX1_init_74 : decode cX1_init 74 = .ok (.dup, 1) := by decide +kernel
theorem dX1_init_75 : decode cX1_init 75 = .ok (.bipush 8, 2) := by decide +kernel
theorem dX1_init_77 : decode cX1_init 77 = .ok (.bipush 8, 2) := by decide +kernel
theorem dX1_init_79 : decode cX1_init 79 = .ok (.iastore, 1) := by decide +kernel
theorem dX1_init_80 : decode cX1_init 80 = .ok (.dup, 1) := by decide +kernel
theorem dX1_init_81 : decode cX1_init 81 = .ok (.bipush 9, 2) := by decide +kernel
theorem dX1_init_83 : decode cX1_init 83 = .ok (.bipush 9, 2) := by decide +kernel
theorem dX1_init_85 : decode cX1_init 85 = .ok (.iastore, 1) := by decide +kernel
theorem dX1_init_86 : decode cX1_init 86 = .ok (.putfield 23, 3) := by decide +kernel
theorem dX1_init_89 : decode cX1_init 89 = .ok (.aload_n 0, 1) := by decide +kernel
theorem dX1_init_90 : decode cX1_init 90 = .ok (.bipush 17, 2) := by decide +kernel
theorem dX1_init_92 : decode cX1_init 92 = .ok (.newarray .int, 2) := by decide +kernel
theorem dX1_init_94 : decode cX1_init 94 = .ok (.putfield 26, 3) := by decide +kernel
theorem dX1_init_97 : decode cX1_init 97 = .ok (.aload_n 0, 1) := by decide +kernel
theorem dX1_init_98 : decode cX1_init 98 = .ok (.bipush 17, 2) := by decide +kernel
theorem dX1_init_100 : decode cX1_init 100 = .ok (.newarray .int, 2) := by decide +kernel
theorem dX1_init_102 : decode cX1_init 102 = .ok (.putfield 29, 3) := by decide +kernel
theorem dX1_init_105 : decode cX1_init 105 = .ok (.aload_n 0, 1) := by decide +kernel
theorem dX1_init_106 : decode cX1_init 106 = .ok (.bipush 17, 2) := by decide +kernel
theorem dX1_init_108 : decode cX1_init 108 = .ok (.newarray .int, 2) := by decide +kernel
theorem dX1_init_110 : decode cX1_init 110 = .ok (.putfield 32, 3) := by decide +kernel
theorem dX1_init_113 : decode cX1_init 113 = .ok (.return_, 1) := by decide +kernel
theorem dX1_thrown_0 : decode cX1_thrown 0 = .ok (.aload_n 0, 1) := by decide +kernel
theorem dX1_thrown_1 : decode cX1_thrown 1 = .ok (.getfield 35, 3) := by decide +kernel
theorem dX1_thrown_4 : decode cX1_thrown 4 = .ok (.ireturn, 1) := by decide +kernel
theorem dX1_no_0 : decode cX1_no 0 = .ok (.aload_n 0, 1) := by decide +kernel
theorem dX1_no_1 : decode cX1_no 1 = .ok (.iload_n 1, 1) := by decide +kernel
theorem dX1_no_2 : decode cX1_no 2 = .ok (.putfield 35, 3) := by decide +kernel
theorem dX1_no_5 : decode cX1_no 5 = .ok (.iconst 0, 1) := by decide +kernel
theorem dX1_no_6 : decode cX1_no 6 = .ok (.ireturn, 1) := by decide +kernel
theorem dX1_isNot_0 : decode cX1_isNot 0 = .ok (.aload_n 0, 1) := by decide +kernel
theorem dX1_isNot_1 : decode cX1_isNot 1 = .ok (.iload_n 1, 1) := by decide +kernel
theorem dX1_isNot_2 : decode cX1_isNot 2 = .ok (.putfield 35, 3) := by decide +kernel
theorem dX1_isNot_5 : decode cX1_isNot 5 = .ok (.iconst 0, 1) := by decide +kernel
theorem dX1_isNot_6 : decode cX1_isNot 6 = .ok (.ireturn, 1) := by decide +kernel
theorem dX1_ok_0 : decode cX1_ok 0 = .ok (.aload_n 0, 1) := by decide +kernel
theorem dX1_ok_1 : decode cX1_ok 1 = .ok (.iconst 0, 1) := by decide +kernel
theorem dX1_ok_2 : decode cX1_ok 2 = .ok (.putfield 35, 3) := by decide +kernel
theorem dX1_ok_5 : decode cX1_ok 5 = .ok (.iload_n 1, 1) := by decide +kernel
theorem dX1_ok_6 : decode cX1_ok 6 = .ok (.ireturn, 1) := by decide +kernel
theorem dX1_isIn_0 : decode cX1_isIn 0 = .ok (.iload_n 0, 1) := by decide +kernel
theorem dX1_isIn_1 : decode cX1_isIn 1 = .ok (.iload_n 1, 1) := by decide +kernel
theorem dX1_isIn_2 : decode cX1_isIn 2 = .ok (.if_icmp .lt 12, 3) := by decide +kernel
theorem dX1_isIn_5 : decode cX1_isIn 5 = .ok (.iload_n 0, 1) := by decide +kernel
theorem dX1_isIn_6 : decode cX1_isIn 6 = .ok (.iload_n 2, 1) := by decide +kernel
theorem dX1_isIn_7 : decode cX1_isIn 7 = .ok (.if_icmp .gt 7, 3) := by decide +kernel
theorem dX1_isIn_10 : decode cX1_isIn 10 = .ok (.iconst 1, 1) := by decide +kernel
theorem dX1_isIn_11 : decode cX1_isIn 11 = .ok (.goto 4, 3) := by decide +kernel
theorem dX1_isIn_14 : decode cX1_isIn 14 = .ok (.iconst 0, 1) := by decide +kernel
theorem dX1_isIn_15 : decode cX1_isIn 15 = .ok (.ireturn, 1) := by decide +kernel
theorem dX1_isLeg_0 : decode cX1_isLeg 0 = .ok (.iload_n 1, 1) := by decide +kernel
theorem dX1_isLeg_1 : decode cX1_isLeg 1 = .ok (.iconst 0, 1) := by decide +kernel
theorem dX1_isLeg_2 : decode cX1_isLeg 2 = .ok (.aload_n 0, 1) := by decide +kernel
theorem dX1_isLeg_3 : decode cX1_isLeg 3 = .ok (.getfield 38, 3) := by decide +kernel
theorem dX1_isLeg_6 : decode cX1_isLeg 6 = .ok (.iconst 1, 1) := by decide +kernel
theorem dX1_isLeg_7 : decode cX1_isLeg 7 = .ok (.isub, 1) := by decide +kernel
theorem dX1_isLeg_8 : decode cX1_isLeg 8 = .ok (.invokestatic 41, 3) := by decide +kernel
theorem dX1_isLeg_11 : decode cX1_isLeg 11 = .ok (.ireturn, 1) := by decide +kernel
theorem dX1_isKind_0 : decode cX1_isKind 0 = .ok (.iload_n 0, 1) := by decide +kernel
theorem dX1_isKind_1 : decode cX1_isKind 1 = .ok (.iconst 0, 1) := by decide +kernel
theorem dX1_isKind_2 : decode cX1_isKind 2 = .ok (.bipush 9, 2) := by decide +kernel
theorem dX1_isKind_4 : decode cX1_isKind 4 = .ok (.invokestatic 41, 3) := by decide +kernel
theorem dX1_isKind_7 : decode cX1_isKind 7 = .ok (.ireturn, 1) := by decide +kernel
theorem dX1_heading_0 : decode cX1_heading 0 = .ok (.iconst 0, 1) := by decide +kernel
theorem dX1_heading_1 : decode cX1_heading 1 = .ok (.istore_n 2, 1) := by decide +kernel
theorem dX1_heading_2 : decode cX1_heading 2 = .ok (.iconst 0, 1) := by decide +kernel
theorem dX1_heading_3 : decode cX1_heading 3 = .ok (.istore_n 3, 1) := by decide +kernel
theorem dX1_heading_4 : decode cX1_heading 4 = .ok (.iload_n 3, 1) := by decide +kernel
theorem dX1_heading_5 : decode cX1_heading 5 = .ok (.iload_n 1, 1) := by decide +kernel
theorem dX1_heading_6 : decode cX1_heading 6 = .ok (.if_icmp .gt 21, 3) := by decide +kernel
theorem dX1_heading_9 : decode cX1_heading 9 = .ok (.iload_n 2, 1) := by decide +kernel
theorem dX1_heading_10 : decode cX1_heading 10 = .ok (.aload_n 0, 1) := by decide +kernel
theorem dX1_heading_11 : decode cX1_heading 11 = .ok (.getfield 13, 3) := by decide +kernel
theorem dX1_heading_14 : decode cX1_heading 14 = .ok (.iload_n 3, 1) := by decide +kernel
theorem dX1_heading_15 : decode cX1_heading 15 = .ok (.iaload, 1) := by decide +kernel
theorem dX1_heading_16 : decode cX1_heading 16 = .ok (.bipush 8, 2) := by decide +kernel
theorem dX1_heading_18 : decode cX1_heading 18 = .ok (.iadd, 1) := by decide +kernel
theorem dX1_heading_19 : decode cX1_heading 19 = .ok (.iadd, 1) := by decide +kernel
theorem dX1_heading_20 : decode cX1_heading 20 = .ok (.istore_n 2, 1) := by decide +kernel
theorem dX1_heading_21 : decode cX1_heading 21 = .ok (.iinc 3 1, 3) := by decide +kernel
theorem dX1_heading_24 : decode cX1_heading 24 = .ok (.goto (-20), 3) := by decide +kernel
theorem dX1_heading_27 : decode cX1_heading 27 = .ok (.iload_n 2, 1) := by decide +kernel
theorem dX1_heading_28 : decode cX1_heading 28 = .ok (.bipush 8, 2) := by decide +kernel
theorem dX1_heading_30 : decode cX1_heading 30 = .ok (.irem, 1) := by decide +kernel
theorem dX1_heading_31 : decode cX1_heading 31 = .ok (.ireturn, 1) := by decide +kernel
theorem dX1_walk_0 : decode cX1_walk 0 = .ok (.aload_n 0, 1) := by decide +kernel
theorem dX1_walk_1 : decode cX1_walk 1 = .ok (.getfield 29, 3) := by decide +kernel
theorem dX1_walk_4 : decode cX1_walk 4 = .ok (.iconst 0, 1) := by decide +kernel
theorem dX1_walk_5 : decode cX1_walk 5 = .ok (.iconst 0, 1) := by decide +kernel
theorem dX1_walk_6 : decode cX1_walk 6 = .ok (.iastore, 1) := by decide +kernel
theorem dX1_walk_7 : decode cX1_walk 7 = .ok (.aload_n 0, 1) := by decide +kernel
theorem dX1_walk_8 : decode cX1_walk 8 = .ok (.getfield 32, 3) := by decide +kernel
theorem dX1_walk_11 : decode cX1_walk 11 = .ok (.iconst 0, 1) := by decide +kernel
theorem dX1_walk_12 : decode cX1_walk 12 = .ok (.iconst 0, 1) := by decide +kernel
theorem dX1_walk_13 : decode cX1_walk 13 = .ok (.iastore, 1) := by decide +kernel
theorem dX1_walk_14 : decode cX1_walk 14 = .ok (.iconst 0, 1) := by decide +kernel
theorem dX1_walk_15 : decode cX1_walk 15 = .ok (.istore_n 1, 1) := by decide +kernel
theorem dX1_walk_16 : decode cX1_walk 16 = .ok (.iload_n 1, 1) := by decide +kernel
theorem dX1_walk_17 : decode cX1_walk 17 = .ok (.aload_n 0, 1) := by decide +kernel
theorem dX1_walk_18 : decode cX1_walk 18 = .ok (.getfield 38, 3) := by decide +kernel
theorem dX1_walk_21 : decode cX1_walk 21 = .ok (.if_icmp .ge 76, 3) := by decide +kernel
theorem dX1_walk_24 : decode cX1_walk 24 = .ok (.aload_n 0, 1) := by decide +kernel
theorem dX1_walk_25 : decode cX1_walk 25 = .ok (.getfield 29, 3) := by decide +kernel
theorem dX1_walk_28 : decode cX1_walk 28 = .ok (.iload_n 1, 1) := by decide +kernel
theorem dX1_walk_29 : decode cX1_walk 29 = .ok (.iconst 1, 1) := by decide +kernel
theorem dX1_walk_30 : decode cX1_walk 30 = .ok (.iadd, 1) := by decide +kernel
theorem dX1_walk_31 : decode cX1_walk 31 = .ok (.aload_n 0, 1) := by decide +kernel
theorem dX1_walk_32 : decode cX1_walk 32 = .ok (.getfield 29, 3) := by decide +kernel
theorem dX1_walk_35 : decode cX1_walk 35 = .ok (.iload_n 1, 1) := by decide +kernel
theorem dX1_walk_36 : decode cX1_walk 36 = .ok (.iaload, 1) := by decide +kernel
theorem dX1_walk_37 : decode cX1_walk 37 = .ok (.aload_n 0, 1) := by decide +kernel
theorem dX1_walk_38 : decode cX1_walk 38 = .ok (.getfield 17, 3) := by decide +kernel
theorem dX1_walk_41 : decode cX1_walk 41 = .ok (.iload_n 1, 1) := by decide +kernel
theorem dX1_walk_42 : decode cX1_walk 42 = .ok (.iaload, 1) := by decide +kernel
theorem dX1_walk_43 : decode cX1_walk 43 = .ok (.getstatic 45, 3) := by decide +kernel
theorem dX1_walk_46 : decode cX1_walk 46 = .ok (.aload_n 0, 1) := by decide +kernel
theorem dX1_walk_47 : decode cX1_walk 47 = .ok (.iload_n 1, 1) := by decide +kernel
theorem dX1_walk_48 : decode cX1_walk 48 = .ok (.invokevirtual 48, 3) := by decide +kernel
theorem dX1_walk_51 : decode cX1_walk 51 = .ok (.iaload, 1) := by decide +kernel
theorem dX1_walk_52 : decode cX1_walk 52 = .ok (.imul, 1) := by decide +kernel
theorem dX1_walk_53 : decode cX1_walk 53 = .ok (.iadd, 1) := by decide +kernel
theorem dX1_walk_54 : decode cX1_walk 54 = .ok (.iastore, 1) := by decide +kernel
theorem dX1_walk_55 : decode cX1_walk 55 = .ok (.aload_n 0, 1) := by decide +kernel
theorem dX1_walk_56 : decode cX1_walk 56 = .ok (.getfield 32, 3) := by decide +kernel
theorem dX1_walk_59 : decode cX1_walk 59 = .ok (.iload_n 1, 1) := by decide +kernel
theorem dX1_walk_60 : decode cX1_walk 60 = .ok (.iconst 1, 1) := by decide +kernel
theorem dX1_walk_61 : decode cX1_walk 61 = .ok (.iadd, 1) := by decide +kernel
theorem dX1_walk_62 : decode cX1_walk 62 = .ok (.aload_n 0, 1) := by decide +kernel
theorem dX1_walk_63 : decode cX1_walk 63 = .ok (.getfield 32, 3) := by decide +kernel
theorem dX1_walk_66 : decode cX1_walk 66 = .ok (.iload_n 1, 1) := by decide +kernel
theorem dX1_walk_67 : decode cX1_walk 67 = .ok (.iaload, 1) := by decide +kernel
theorem dX1_walk_68 : decode cX1_walk 68 = .ok (.aload_n 0, 1) := by decide +kernel
theorem dX1_walk_69 : decode cX1_walk 69 = .ok (.getfield 17, 3) := by decide +kernel
theorem dX1_walk_72 : decode cX1_walk 72 = .ok (.iload_n 1, 1) := by decide +kernel
theorem dX1_walk_73 : decode cX1_walk 73 = .ok (.iaload, 1) := by decide +kernel
theorem dX1_walk_74 : decode cX1_walk 74 = .ok (.getstatic 45, 3) := by decide +kernel
theorem dX1_walk_77 : decode cX1_walk 77 = .ok (.aload_n 0, 1) := by decide +kernel
theorem dX1_walk_78 : decode cX1_walk 78 = .ok (.iload_n 1, 1) := by decide +kernel
theorem dX1_walk_79 : decode cX1_walk 79 = .ok (.invokevirtual 48, 3) := by decide +kernel
theorem dX1_walk_82 : decode cX1_walk 82 = .ok (.iconst 2, 1) := by decide +kernel
theorem dX1_walk_83 : decode cX1_walk 83 = .ok (.iadd, 1) := by decide +kernel
theorem dX1_walk_84 : decode cX1_walk 84 = .ok (.bipush 8, 2) := by decide +kernel
theorem dX1_walk_86 : decode cX1_walk 86 = .ok (.irem, 1) := by decide +kernel
theorem dX1_walk_87 : decode cX1_walk 87 = .ok (.iaload, 1) := by decide +kernel
theorem dX1_walk_88 : decode cX1_walk 88 = .ok (.imul, 1) := by decide +kernel
theorem dX1_walk_89 : decode cX1_walk 89 = .ok (.iadd, 1) := by decide +kernel
theorem dX1_walk_90 : decode cX1_walk 90 = .ok (.iastore, 1) := by decide +kernel
theorem dX1_walk_91 : decode cX1_walk 91 = .ok (.iinc 1 1, 3) := by decide +kernel
theorem dX1_walk_94 : decode cX1_walk 94 = .ok (.goto (-78), 3) := by decide +kernel
theorem dX1_walk_97 : decode cX1_walk 97 = .ok (.return_, 1) := by decide +kernel
theorem dX1_home_0 : decode cX1_home 0 = .ok (.aload_n 0, 1) := by decide +kernel
theorem dX1_home_1 : decode cX1_home 1 = .ok (.invokevirtual 52, 3) := by decide +kernel
theorem dX1_home_4 : decode cX1_home 4 = .ok (.aload_n 0, 1) := by decide +kernel
theorem dX1_home_5 : decode cX1_home 5 = .ok (.getfield 29, 3) := by decide +kernel
theorem dX1_home_8 : decode cX1_home 8 = .ok (.aload_n 0, 1) := by decide +kernel
theorem dX1_home_9 : decode cX1_home 9 = .ok (.getfield 38, 3) := by decide +kernel
theorem dX1_home_12 : decode cX1_home 12 = .ok (.iaload, 1) := by decide +kernel
theorem dX1_home_13 : decode cX1_home 13 = .ok (.invokestatic 55, 3) := by decide +kernel
theorem dX1_home_16 : decode cX1_home 16 = .ok (.aload_n 0, 1) := by decide +kernel
theorem dX1_home_17 : decode cX1_home 17 = .ok (.getfield 32, 3) := by decide +kernel
theorem dX1_home_20 : decode cX1_home 20 = .ok (.aload_n 0, 1) := by decide +kernel
theorem dX1_home_21 : decode cX1_home 21 = .ok (.getfield 38, 3) := by decide +kernel
theorem dX1_home_24 : decode cX1_home 24 = .ok (.iaload, 1) := by decide +kernel
theorem dX1_home_25 : decode cX1_home 25 = .ok (.invokestatic 55, 3) := by decide +kernel
theorem dX1_home_28 : decode cX1_home 28 = .ok (.invokestatic 60, 3) := by decide +kernel
theorem dX1_home_31 : decode cX1_home 31 = .ok (.ireturn, 1) := by decide +kernel
theorem dX1_back_0 : decode cX1_back 0 = .ok (.aload_n 0, 1) := by decide +kernel
theorem dX1_back_1 : decode cX1_back 1 = .ok (.invokevirtual 52, 3) := by decide +kernel
theorem dX1_back_4 : decode cX1_back 4 = .ok (.iconst 0, 1) := by decide +kernel
theorem dX1_back_5 : decode cX1_back 5 = .ok (.istore_n 1, 1) := by decide +kernel
theorem dX1_back_6 : decode cX1_back 6 = .ok (.iconst 1, 1) := by decide +kernel
theorem dX1_back_7 : decode cX1_back 7 = .ok (.istore_n 2, 1) := by decide +kernel
theorem dX1_back_8 : decode cX1_back 8 = .ok (.iload_n 2, 1) := by decide +kernel
theorem dX1_back_9 : decode cX1_back 9 = .ok (.aload_n 0, 1) := by decide +kernel
theorem dX1_back_10 : decode cX1_back 10 = .ok (.getfield 38, 3) := by decide +kernel
theorem dX1_back_13 : decode cX1_back 13 = .ok (.if_icmp .gt 80, 3) := by decide +kernel
theorem dX1_back_16 : decode cX1_back 16 = .ok (.iconst 0, 1) := by decide +kernel
theorem dX1_back_17 : decode cX1_back 17 = .ok (.istore_n 3, 1) := by decide +kernel
theorem dX1_back_18 : decode cX1_back 18 = .ok (.iconst 0, 1) := by decide +kernel
theorem dX1_back_19 : decode cX1_back 19 = .ok (.istore 4, 2) := by decide +kernel
theorem dX1_back_21 : decode cX1_back 21 = .ok (.iload 4, 2) := by decide +kernel
theorem dX1_back_23 : decode cX1_back 23 = .ok (.iload_n 2, 1) := by decide +kernel
theorem dX1_back_24 : decode cX1_back 24 = .ok (.if_icmp .ge 51, 3) := by decide +kernel
theorem dX1_back_27 : decode cX1_back 27 = .ok (.iload_n 3, 1) := by decide +kernel
theorem dX1_back_28 : decode cX1_back 28 = .ok (.ifCond .ne 35, 3) := by decide +kernel
theorem dX1_back_31 : decode cX1_back 31 = .ok (.aload_n 0, 1) := by decide +kernel
theorem dX1_back_32 : decode cX1_back 32 = .ok (.getfield 29, 3) := by decide +kernel
theorem dX1_back_35 : decode cX1_back 35 = .ok (.iload 4, 2) := by decide +kernel
theorem dX1_back_37 : decode cX1_back 37 = .ok (.iaload, 1) := by decide +kernel
theorem dX1_back_38 : decode cX1_back 38 = .ok (.aload_n 0, 1) := by decide +kernel
theorem dX1_back_39 : decode cX1_back 39 = .ok (.getfield 29, 3) := by decide +kernel
theorem dX1_back_42 : decode cX1_back 42 = .ok (.iload_n 2, 1) := by decide +kernel
theorem dX1_back_43 : decode cX1_back 43 = .ok (.iaload, 1) := by decide +kernel
theorem dX1_back_44 : decode cX1_back 44 = .ok (.if_icmp .ne 23, 3) := by decide +kernel
theorem dX1_back_47 : decode cX1_back 47 = .ok (.aload_n 0, 1) := by decide +kernel
theorem dX1_back_48 : decode cX1_back 48 = .ok (.getfield 32, 3) := by decide +kernel
theorem dX1_back_51 : decode cX1_back 51 = .ok (.iload 4, 2) := by decide +kernel
theorem dX1_back_53 : decode cX1_back 53 = .ok (.iaload, 1) := by decide +kernel
theorem dX1_back_54 : decode cX1_back 54 = .ok (.aload_n 0, 1) := by decide +kernel
theorem dX1_back_55 : decode cX1_back 55 = .ok (.getfield 32, 3) := by decide +kernel
theorem dX1_back_58 : decode cX1_back 58 = .ok (.iload_n 2, 1) := by decide +kernel
theorem dX1_back_59 : decode cX1_back 59 = .ok (.iaload, 1) := by decide +kernel
theorem dX1_back_60 : decode cX1_back 60 = .ok (.if_icmp .ne 7, 3) := by decide +kernel
theorem dX1_back_63 : decode cX1_back 63 = .ok (.iconst 1, 1) := by decide +kernel
theorem dX1_back_64 : decode cX1_back 64 = .ok (.goto 4, 3) := by decide +kernel
theorem dX1_back_67 : decode cX1_back 67 = .ok (.iconst 0, 1) := by decide +kernel
theorem dX1_back_68 : decode cX1_back 68 = .ok (.istore_n 3, 1) := by decide +kernel
theorem dX1_back_69 : decode cX1_back 69 = .ok (.iinc 4 1, 3) := by decide +kernel
theorem dX1_back_72 : decode cX1_back 72 = .ok (.goto (-51), 3) := by decide +kernel
theorem dX1_back_75 : decode cX1_back 75 = .ok (.iload_n 1, 1) := by decide +kernel
theorem dX1_back_76 : decode cX1_back 76 = .ok (.iload_n 3, 1) := by decide +kernel
theorem dX1_back_77 : decode cX1_back 77 = .ok (.ifCond .eq 7, 3) := by decide +kernel
theorem dX1_back_80 : decode cX1_back 80 = .ok (.iconst 1, 1) := by decide +kernel
theorem dX1_back_81 : decode cX1_back 81 = .ok (.goto 4, 3) := by decide +kernel
theorem dX1_back_84 : decode cX1_back 84 = .ok (.iconst 0, 1) := by decide +kernel
theorem dX1_back_85 : decode cX1_back 85 = .ok (.iadd, 1) := by decide +kernel
theorem dX1_back_86 : decode cX1_back 86 = .ok (.istore_n 1, 1) := by decide +kernel
theorem dX1_back_87 : decode cX1_back 87 = .ok (.iinc 2 1, 3) := by decide +kernel
theorem dX1_back_90 : decode cX1_back 90 = .ok (.goto (-82), 3) := by decide +kernel
theorem dX1_back_93 : decode cX1_back 93 = .ok (.iload_n 1, 1) := by decide +kernel
theorem dX1_back_94 : decode cX1_back 94 = .ok (.ireturn, 1) := by decide +kernel
theorem dX1_endOf_0 : decode cX1_endOf 0 = .ok (.aload_n 0, 1) := by decide +kernel
theorem dX1_endOf_1 : decode cX1_endOf 1 = .ok (.invokevirtual 52, 3) := by decide +kernel
theorem dX1_endOf_4 : decode cX1_endOf 4 = .ok (.aload_n 1, 1) := by decide +kernel
theorem dX1_endOf_5 : decode cX1_endOf 5 = .ok (.aload_n 0, 1) := by decide +kernel
theorem dX1_endOf_6 : decode cX1_endOf 6 = .ok (.getfield 38, 3) := by decide +kernel
theorem dX1_endOf_9 : decode cX1_endOf 9 = .ok (.iaload, 1) := by decide +kernel
theorem dX1_endOf_10 : decode cX1_endOf 10 = .ok (.ireturn, 1) := by decide +kernel
theorem dX1_folds_0 : decode cX1_folds 0 = .ok (.iload_n 0, 1) := by decide +kernel
theorem dX1_folds_1 : decode cX1_folds 1 = .ok (.iload_n 1, 1) := by decide +kernel
theorem dX1_folds_2 : decode cX1_folds 2 = .ok (.iadd, 1) := by decide +kernel
theorem dX1_folds_3 : decode cX1_folds 3 = .ok (.iconst 0, 1) := by decide +kernel
theorem dX1_folds_4 : decode cX1_folds 4 = .ok (.bipush 24, 2) := by decide +kernel
theorem dX1_folds_6 : decode cX1_folds 6 = .ok (.invokestatic 41, 3) := by decide +kernel
theorem dX1_folds_9 : decode cX1_folds 9 = .ok (.ifCond .ne 7, 3) := by decide +kernel
theorem dX1_folds_12 : decode cX1_folds 12 = .ok (.iconst 1, 1) := by decide +kernel
theorem dX1_folds_13 : decode cX1_folds 13 = .ok (.goto 4, 3) := by decide +kernel
theorem dX1_folds_16 : decode cX1_folds 16 = .ok (.iconst 0, 1) := by decide +kernel
theorem dX1_folds_17 : decode cX1_folds 17 = .ok (.ireturn, 1) := by decide +kernel
theorem dX1_sing_0 : decode cX1_sing 0 = .ok (.aload_n 0, 1) := by decide +kernel
theorem dX1_sing_1 : decode cX1_sing 1 = .ok (.getfield 26, 3) := by decide +kernel
theorem dX1_sing_4 : decode cX1_sing 4 = .ok (.iconst 0, 1) := by decide +kernel
theorem dX1_sing_5 : decode cX1_sing 5 = .ok (.bipush 12, 2) := by decide +kernel
theorem dX1_sing_7 : decode cX1_sing 7 = .ok (.iastore, 1) := by decide +kernel
theorem dX1_sing_8 : decode cX1_sing 8 = .ok (.iconst 0, 1) := by decide +kernel
theorem dX1_sing_9 : decode cX1_sing 9 = .ok (.istore_n 2, 1) := by decide +kernel
theorem dX1_sing_10 : decode cX1_sing 10 = .ok (.iload_n 2, 1) := by decide +kernel
theorem dX1_sing_11 : decode cX1_sing 11 = .ok (.aload_n 0, 1) := by decide +kernel
theorem dX1_sing_12 : decode cX1_sing 12 = .ok (.getfield 38, 3) := by decide +kernel
theorem dX1_sing_15 : decode cX1_sing 15 = .ok (.if_icmp .ge 64, 3) := by decide +kernel
theorem dX1_sing_18 : decode cX1_sing 18 = .ok (.aload_n 0, 1) := by decide +kernel
theorem dX1_sing_19 : decode cX1_sing 19 = .ok (.getfield 26, 3) := by decide +kernel
theorem dX1_sing_22 : decode cX1_sing 22 = .ok (.iload_n 2, 1) := by decide +kernel
theorem dX1_sing_23 : decode cX1_sing 23 = .ok (.iconst 1, 1) := by decide +kernel
theorem dX1_sing_24 : decode cX1_sing 24 = .ok (.iadd, 1) := by decide +kernel
theorem dX1_sing_25 : decode cX1_sing 25 = .ok (.aload_n 0, 1) := by decide +kernel
theorem dX1_sing_26 : decode cX1_sing 26 = .ok (.getfield 26, 3) := by decide +kernel
theorem dX1_sing_29 : decode cX1_sing 29 = .ok (.iload_n 2, 1) := by decide +kernel
theorem dX1_sing_30 : decode cX1_sing 30 = .ok (.iaload, 1) := by decide +kernel
theorem dX1_sing_31 : decode cX1_sing 31 = .ok (.aload_n 0, 1) := by decide +kernel
theorem dX1_sing_32 : decode cX1_sing 32 = .ok (.getfield 26, 3) := by decide +kernel
theorem dX1_sing_35 : decode cX1_sing 35 = .ok (.iload_n 2, 1) := by decide +kernel
theorem dX1_sing_36 : decode cX1_sing 36 = .ok (.iaload, 1) := by decide +kernel
theorem dX1_sing_37 : decode cX1_sing 37 = .ok (.iload_n 1, 1) := by decide +kernel
theorem dX1_sing_38 : decode cX1_sing 38 = .ok (.aload_n 0, 1) := by decide +kernel
theorem dX1_sing_39 : decode cX1_sing 39 = .ok (.getfield 13, 3) := by decide +kernel
theorem dX1_sing_42 : decode cX1_sing 42 = .ok (.iload_n 2, 1) := by decide +kernel
theorem dX1_sing_43 : decode cX1_sing 43 = .ok (.iaload, 1) := by decide +kernel
theorem dX1_sing_44 : decode cX1_sing 44 = .ok (.imul, 1) := by decide +kernel
theorem dX1_sing_45 : decode cX1_sing 45 = .ok (.invokestatic 64, 3) := by decide +kernel
theorem dX1_sing_48 : decode cX1_sing 48 = .ok (.ifCond .eq 15, 3) := by decide +kernel
theorem dX1_sing_51 : decode cX1_sing 51 = .ok (.iload_n 1, 1) := by decide +kernel
theorem dX1_sing_52 : decode cX1_sing 52 = .ok (.ineg, 1) := by decide +kernel
theorem dX1_sing_53 : decode cX1_sing 53 = .ok (.aload_n 0, 1) := by decide +kernel
theorem dX1_sing_54 : decode cX1_sing 54 = .ok (.getfield 13, 3) := by decide +kernel
theorem dX1_sing_57 : decode cX1_sing 57 = .ok (.iload_n 2, 1) := by decide +kernel
theorem dX1_sing_58 : decode cX1_sing 58 = .ok (.iaload, 1) := by decide +kernel
theorem dX1_sing_59 : decode cX1_sing 59 = .ok (.imul, 1) := by decide +kernel
theorem dX1_sing_60 : decode cX1_sing 60 = .ok (.goto 11, 3) := by decide +kernel
theorem dX1_sing_63 : decode cX1_sing 63 = .ok (.iload_n 1, 1) := by decide +kernel
theorem dX1_sing_64 : decode cX1_sing 64 = .ok (.aload_n 0, 1) := by decide +kernel
theorem dX1_sing_65 : decode cX1_sing 65 = .ok (.getfield 13, 3) := by decide +kernel
theorem dX1_sing_68 : decode cX1_sing 68 = .ok (.iload_n 2, 1) := by decide +kernel
theorem dX1_sing_69 : decode cX1_sing 69 = .ok (.iaload, 1) := by decide +kernel
theorem dX1_sing_70 : decode cX1_sing 70 = .ok (.imul, 1) := by decide +kernel
theorem dX1_sing_71 : decode cX1_sing 71 = .ok (.iadd, 1) := by decide +kernel
theorem dX1_sing_72 : decode cX1_sing 72 = .ok (.iastore, 1) := by decide +kernel
theorem dX1_sing_73 : decode cX1_sing 73 = .ok (.iinc 2 1, 3) := by decide +kernel
theorem dX1_sing_76 : decode cX1_sing 76 = .ok (.goto (-66), 3) := by decide +kernel
theorem dX1_sing_79 : decode cX1_sing 79 = .ok (.return_, 1) := by decide +kernel
theorem dX1_isFoldedNow_0 : decode cX1_isFoldedNow 0 = .ok (.aload_n 0, 1) := by decide +kernel
theorem dX1_isFoldedNow_1 : decode cX1_isFoldedNow 1 = .ok (.aload_n 0, 1) := by decide +kernel
theorem dX1_isFoldedNow_2 : decode cX1_isFoldedNow 2 = .ok (.getfield 7, 3) := by decide +kernel
theorem dX1_isFoldedNow_5 : decode cX1_isFoldedNow 5 = .ok (.invokevirtual 68, 3) := by decide +kernel
theorem dX1_isFoldedNow_8 : decode cX1_isFoldedNow 8 = .ok (.aload_n 0, 1) := by decide +kernel
theorem dX1_isFoldedNow_9 : decode cX1_isFoldedNow 9 = .ok (.getfield 26, 3) := by decide +kernel
theorem dX1_isFoldedNow_12 : decode cX1_isFoldedNow 12 = .ok (.iload_n 1, 1) := by decide +kernel
theorem dX1_isFoldedNow_13 : decode cX1_isFoldedNow 13 = .ok (.iaload, 1) := by decide +kernel
theorem dX1_isFoldedNow_14 : decode cX1_isFoldedNow 14 = .ok (.aload_n 0, 1) := by decide +kernel
theorem dX1_isFoldedNow_15 : decode cX1_isFoldedNow 15 = .ok (.getfield 7, 3) := by decide +kernel
theorem dX1_isFoldedNow_18 : decode cX1_isFoldedNow 18 = .ok (.aload_n 0, 1) := by decide +kernel
theorem dX1_isFoldedNow_19 : decode cX1_isFoldedNow 19 = .ok (.getfield 13, 3) := by decide +kernel
theorem dX1_isFoldedNow_22 : decode cX1_isFoldedNow 22 = .ok (.iload_n 1, 1) := by decide +kernel
theorem dX1_isFoldedNow_23 : decode cX1_isFoldedNow 23 = .ok (.iaload, 1) := by decide +kernel
theorem dX1_isFoldedNow_24 : decode cX1_isFoldedNow 24 = .ok (.imul, 1) := by decide +kernel
theorem dX1_isFoldedNow_25 : decode cX1_isFoldedNow 25 = .ok (.invokestatic 64, 3) := by decide +kernel
theorem dX1_isFoldedNow_28 : decode cX1_isFoldedNow 28 = .ok (.ireturn, 1) := by decide +kernel
theorem dX1_foldedNow_0 : decode cX1_foldedNow 0 = .ok (.iconst 0, 1) := by decide +kernel
theorem dX1_foldedNow_1 : decode cX1_foldedNow 1 = .ok (.istore_n 1, 1) := by decide +kernel
theorem dX1_foldedNow_2 : decode cX1_foldedNow 2 = .ok (.iconst 0, 1) := by decide +kernel
theorem dX1_foldedNow_3 : decode cX1_foldedNow 3 = .ok (.istore_n 2, 1) := by decide +kernel
theorem dX1_foldedNow_4 : decode cX1_foldedNow 4 = .ok (.iload_n 2, 1) := by decide +kernel
theorem dX1_foldedNow_5 : decode cX1_foldedNow 5 = .ok (.aload_n 0, 1) := by decide +kernel
theorem dX1_foldedNow_6 : decode cX1_foldedNow 6 = .ok (.getfield 38, 3) := by decide +kernel
theorem dX1_foldedNow_9 : decode cX1_foldedNow 9 = .ok (.if_icmp .ge 25, 3) := by decide +kernel
theorem dX1_foldedNow_12 : decode cX1_foldedNow 12 = .ok (.iload_n 1, 1) := by decide +kernel
theorem dX1_foldedNow_13 : decode cX1_foldedNow 13 = .ok (.aload_n 0, 1) := by decide +kernel
theorem dX1_foldedNow_14 : decode cX1_foldedNow 14 = .ok (.iload_n 2, 1) := by decide +kernel
theorem dX1_foldedNow_15 : decode cX1_foldedNow 15 = .ok (.invokevirtual 72, 3) := by decide +kernel
theorem dX1_foldedNow_18 : decode cX1_foldedNow 18 = .ok (.ifCond .eq 7, 3) := by decide +kernel
theorem dX1_foldedNow_21 : decode cX1_foldedNow 21 = .ok (.iconst 1, 1) := by decide +kernel
theorem dX1_foldedNow_22 : decode cX1_foldedNow 22 = .ok (.goto 4, 3) := by decide +kernel
theorem dX1_foldedNow_25 : decode cX1_foldedNow 25 = .ok (.iconst 0, 1) := by decide +kernel
theorem dX1_foldedNow_26 : decode cX1_foldedNow 26 = .ok (.iadd, 1) := by decide +kernel
theorem dX1_foldedNow_27 : decode cX1_foldedNow 27 = .ok (.istore_n 1, 1) := by decide +kernel
theorem dX1_foldedNow_28 : decode cX1_foldedNow 28 = .ok (.iinc 2 1, 3) := by decide +kernel
theorem dX1_foldedNow_31 : decode cX1_foldedNow 31 = .ok (.goto (-27), 3) := by decide +kernel
theorem dX1_foldedNow_34 : decode cX1_foldedNow 34 = .ok (.iload_n 1, 1) := by decide +kernel
theorem dX1_foldedNow_35 : decode cX1_foldedNow 35 = .ok (.ireturn, 1) := by decide +kernel
theorem dX1_isTwofold_0 : decode cX1_isTwofold 0 = .ok (.aload_n 0, 1) := by decide +kernel
theorem dX1_isTwofold_1 : decode cX1_isTwofold 1 = .ok (.getfield 13, 3) := by decide +kernel
theorem dX1_isTwofold_4 : decode cX1_isTwofold 4 = .ok (.iload_n 1, 1) := by decide +kernel
theorem dX1_isTwofold_5 : decode cX1_isTwofold 5 = .ok (.iaload, 1) := by decide +kernel
theorem dX1_isTwofold_6 : decode cX1_isTwofold 6 = .ok (.ifCond .eq 48, 3) := by decide +kernel
theorem dX1_isTwofold_9 : decode cX1_isTwofold 9 = .ok (.aload_n 0, 1) := by decide +kernel
theorem dX1_isTwofold_10 : decode cX1_isTwofold 10 = .ok (.getfield 26, 3) := by decide +kernel
theorem dX1_isTwofold_13 : decode cX1_isTwofold 13 = .ok (.iload_n 1, 1) := by decide +kernel
theorem dX1_isTwofold_14 : decode cX1_isTwofold 14 = .ok (.iaload, 1) := by decide +kernel
theorem dX1_isTwofold_15 : decode cX1_isTwofold 15 = .ok (.iload_n 2, 1) := by decide +kernel
theorem dX1_isTwofold_16 : decode cX1_isTwofold 16 = .ok (.aload_n 0, 1) := by decide +kernel
theorem dX1_isTwofold_17 : decode cX1_isTwofold 17 = .ok (.getfield 13, 3) := by decide +kernel
theorem dX1_isTwofold_20 : decode cX1_isTwofold 20 = .ok (.iload_n 1, 1) := by decide +kernel
theorem dX1_isTwofold_21 : decode cX1_isTwofold 21 = .ok (.iaload, 1) := by decide +kernel
theorem dX1_isTwofold_22 : decode cX1_isTwofold 22 = .ok (.imul, 1) := by decide +kernel
theorem dX1_isTwofold_23 : decode cX1_isTwofold 23 = .ok (.invokestatic 64, 3) := by decide +kernel
theorem dX1_isTwofold_26 : decode cX1_isTwofold 26 = .ok (.ifCond .ne 24, 3) := by decide +kernel
theorem dX1_isTwofold_29 : decode cX1_isTwofold 29 = .ok (.aload_n 0, 1) := by decide +kernel
theorem dX1_isTwofold_30 : decode cX1_isTwofold 30 = .ok (.getfield 26, 3) := by decide +kernel
theorem dX1_isTwofold_33 : decode cX1_isTwofold 33 = .ok (.iload_n 1, 1) := by decide +kernel
theorem dX1_isTwofold_34 : decode cX1_isTwofold 34 = .ok (.iaload, 1) := by decide +kernel
theorem dX1_isTwofold_35 : decode cX1_isTwofold 35 = .ok (.iload_n 2, 1) := by decide +kernel
theorem dX1_isTwofold_36 : decode cX1_isTwofold 36 = .ok (.ineg, 1) := by decide +kernel
theorem dX1_isTwofold_37 : decode cX1_isTwofold 37 = .ok (.aload_n 0, 1) := by decide +kernel
theorem dX1_isTwofold_38 : decode cX1_isTwofold 38 = .ok (.getfield 13, 3) := by decide +kernel
theorem dX1_isTwofold_41 : decode cX1_isTwofold 41 = .ok (.iload_n 1, 1) := by decide +kernel
theorem dX1_isTwofold_42 : decode cX1_isTwofold 42 = .ok (.iaload, 1) := by decide +kernel
theorem dX1_isTwofold_43 : decode cX1_isTwofold 43 = .ok (.imul, 1) := by decide +kernel
theorem dX1_isTwofold_44 : decode cX1_isTwofold 44 = .ok (.invokestatic 64, 3) := by decide +kernel
theorem dX1_isTwofold_47 : decode cX1_isTwofold 47 = .ok (.ifCond .eq 7, 3) := by decide +kernel
theorem dX1_isTwofold_50 : decode cX1_isTwofold 50 = .ok (.iconst 1, 1) := by decide +kernel
theorem dX1_isTwofold_51 : decode cX1_isTwofold 51 = .ok (.goto 4, 3) := by decide +kernel
theorem dX1_isTwofold_54 : decode cX1_isTwofold 54 = .ok (.iconst 0, 1) := by decide +kernel
theorem dX1_isTwofold_55 : decode cX1_isTwofold 55 = .ok (.ireturn, 1) := by decide +kernel
theorem dX1_alike_0 : decode cX1_alike 0 = .ok (.iconst 0, 1) := by decide +kernel
theorem dX1_alike_1 : decode cX1_alike 1 = .ok (.istore_n 2, 1) := by decide +kernel
theorem dX1_alike_2 : decode cX1_alike 2 = .ok (.iconst 0, 1) := by decide +kernel
theorem dX1_alike_3 : decode cX1_alike 3 = .ok (.istore_n 3, 1) := by decide +kernel
theorem dX1_alike_4 : decode cX1_alike 4 = .ok (.iload_n 3, 1) := by decide +kernel
theorem dX1_alike_5 : decode cX1_alike 5 = .ok (.bipush 10, 2) := by decide +kernel
theorem dX1_alike_7 : decode cX1_alike 7 = .ok (.if_icmp .ge 32, 3) := by decide +kernel
theorem dX1_alike_10 : decode cX1_alike 10 = .ok (.iload_n 2, 1) := by decide +kernel
theorem dX1_alike_11 : decode cX1_alike 11 = .ok (.aload_n 0, 1) := by decide +kernel
theorem dX1_alike_12 : decode cX1_alike 12 = .ok (.getfield 23, 3) := by decide +kernel
theorem dX1_alike_15 : decode cX1_alike 15 = .ok (.iload_n 3, 1) := by decide +kernel
theorem dX1_alike_16 : decode cX1_alike 16 = .ok (.iaload, 1) := by decide +kernel
theorem dX1_alike_17 : decode cX1_alike 17 = .ok (.aload_n 0, 1) := by decide +kernel
theorem dX1_alike_18 : decode cX1_alike 18 = .ok (.getfield 23, 3) := by decide +kernel
theorem dX1_alike_21 : decode cX1_alike 21 = .ok (.iload_n 1, 1) := by decide +kernel
theorem dX1_alike_22 : decode cX1_alike 22 = .ok (.iaload, 1) := by decide +kernel
theorem dX1_alike_23 : decode cX1_alike 23 = .ok (.if_icmp .ne 7, 3) := by decide +kernel
theorem dX1_alike_26 : decode cX1_alike 26 = .ok (.iconst 1, 1) := by decide +kernel
theorem dX1_alike_27 : decode cX1_alike 27 = .ok (.goto 4, 3) := by decide +kernel
theorem dX1_alike_30 : decode cX1_alike 30 = .ok (.iconst 0, 1) := by decide +kernel
theorem dX1_alike_31 : decode cX1_alike 31 = .ok (.iadd, 1) := by decide +kernel
theorem dX1_alike_32 : decode cX1_alike 32 = .ok (.istore_n 2, 1) := by decide +kernel
theorem dX1_alike_33 : decode cX1_alike 33 = .ok (.iinc 3 1, 3) := by decide +kernel
theorem dX1_alike_36 : decode cX1_alike 36 = .ok (.goto (-32), 3) := by decide +kernel
theorem dX1_alike_39 : decode cX1_alike 39 = .ok (.iload_n 2, 1) := by decide +kernel
theorem dX1_alike_40 : decode cX1_alike 40 = .ok (.ireturn, 1) := by decide +kernel
theorem dX1_many_0 : decode cX1_many 0 = .ok (.aload_n 0, 1) := by decide +kernel
theorem dX1_many_1 : decode cX1_many 1 = .ok (.iload_n 1, 1) := by decide +kernel
theorem dX1_many_2 : decode cX1_many 2 = .ok (.iload_n 2, 1) := by decide +kernel
theorem dX1_many_3 : decode cX1_many 3 = .ok (.invokevirtual 76, 3) := by decide +kernel
theorem dX1_many_6 : decode cX1_many 6 = .ok (.ifCond .eq 7, 3) := by decide +kernel
theorem dX1_many_9 : decode cX1_many 9 = .ok (.iconst 2, 1) := by decide +kernel
theorem dX1_many_10 : decode cX1_many 10 = .ok (.goto 4, 3) := by decide +kernel
theorem dX1_many_13 : decode cX1_many 13 = .ok (.iconst 1, 1) := by decide +kernel
theorem dX1_many_14 : decode cX1_many 14 = .ok (.aload_n 0, 1) := by decide +kernel
theorem dX1_many_15 : decode cX1_many 15 = .ok (.aload_n 0, 1) := by decide +kernel
theorem dX1_many_16 : decode cX1_many 16 = .ok (.getfield 20, 3) := by decide +kernel
theorem dX1_many_19 : decode cX1_many 19 = .ok (.iload_n 1, 1) := by decide +kernel
theorem dX1_many_20 : decode cX1_many 20 = .ok (.iaload, 1) := by decide +kernel
theorem dX1_many_21 : decode cX1_many 21 = .ok (.invokevirtual 79, 3) := by decide +kernel
theorem dX1_many_24 : decode cX1_many 24 = .ok (.imul, 1) := by decide +kernel
theorem dX1_many_25 : decode cX1_many 25 = .ok (.ireturn, 1) := by decide +kernel
theorem dX1_manyNow_0 : decode cX1_manyNow 0 = .ok (.aload_n 0, 1) := by decide +kernel
theorem dX1_manyNow_1 : decode cX1_manyNow 1 = .ok (.aload_n 0, 1) := by decide +kernel
theorem dX1_manyNow_2 : decode cX1_manyNow 2 = .ok (.getfield 7, 3) := by decide +kernel
theorem dX1_manyNow_5 : decode cX1_manyNow 5 = .ok (.invokevirtual 68, 3) := by decide +kernel
theorem dX1_manyNow_8 : decode cX1_manyNow 8 = .ok (.aload_n 0, 1) := by decide +kernel
theorem dX1_manyNow_9 : decode cX1_manyNow 9 = .ok (.iload_n 1, 1) := by decide +kernel
theorem dX1_manyNow_10 : decode cX1_manyNow 10 = .ok (.aload_n 0, 1) := by decide +kernel
theorem dX1_manyNow_11 : decode cX1_manyNow 11 = .ok (.getfield 7, 3) := by decide +kernel
theorem dX1_manyNow_14 : decode cX1_manyNow 14 = .ok (.invokevirtual 82, 3) := by decide +kernel
theorem dX1_manyNow_17 : decode cX1_manyNow 17 = .ok (.ireturn, 1) := by decide +kernel
theorem dX1_right_0 : decode cX1_right 0 = .ok (.aload_n 0, 1) := by decide +kernel
theorem dX1_right_1 : decode cX1_right 1 = .ok (.aload_n 0, 1) := by decide +kernel
theorem dX1_right_2 : decode cX1_right 2 = .ok (.getfield 7, 3) := by decide +kernel
theorem dX1_right_5 : decode cX1_right 5 = .ok (.invokevirtual 68, 3) := by decide +kernel
theorem dX1_right_8 : decode cX1_right 8 = .ok (.aload_n 0, 1) := by decide +kernel
theorem dX1_right_9 : decode cX1_right 9 = .ok (.iload_n 1, 1) := by decide +kernel
theorem dX1_right_10 : decode cX1_right 10 = .ok (.aload_n 0, 1) := by decide +kernel
theorem dX1_right_11 : decode cX1_right 11 = .ok (.getfield 7, 3) := by decide +kernel
theorem dX1_right_14 : decode cX1_right 14 = .ok (.invokevirtual 76, 3) := by decide +kernel
theorem dX1_right_17 : decode cX1_right 17 = .ok (.ifCond .eq 25, 3) := by decide +kernel
theorem dX1_right_20 : decode cX1_right 20 = .ok (.aload_n 0, 1) := by decide +kernel
theorem dX1_right_21 : decode cX1_right 21 = .ok (.getfield 13, 3) := by decide +kernel
theorem dX1_right_24 : decode cX1_right 24 = .ok (.iload_n 1, 1) := by decide +kernel
theorem dX1_right_25 : decode cX1_right 25 = .ok (.iaload, 1) := by decide +kernel
theorem dX1_right_26 : decode cX1_right 26 = .ok (.ifCond .le 16, 3) := by decide +kernel
theorem dX1_right_29 : decode cX1_right 29 = .ok (.aload_n 0, 1) := by decide +kernel
theorem dX1_right_30 : decode cX1_right 30 = .ok (.aload_n 0, 1) := by decide +kernel
theorem dX1_right_31 : decode cX1_right 31 = .ok (.getfield 20, 3) := by decide +kernel
theorem dX1_right_34 : decode cX1_right 34 = .ok (.iload_n 1, 1) := by decide +kernel
theorem dX1_right_35 : decode cX1_right 35 = .ok (.iaload, 1) := by decide +kernel
theorem dX1_right_36 : decode cX1_right 36 = .ok (.invokevirtual 79, 3) := by decide +kernel
theorem dX1_right_39 : decode cX1_right 39 = .ok (.goto 4, 3) := by decide +kernel
theorem dX1_right_42 : decode cX1_right 42 = .ok (.iconst 0, 1) := by decide +kernel
theorem dX1_right_43 : decode cX1_right 43 = .ok (.istore_n 2, 1) := by decide +kernel
theorem dX1_right_44 : decode cX1_right 44 = .ok (.iconst 0, 1) := by decide +kernel
theorem dX1_right_45 : decode cX1_right 45 = .ok (.istore_n 3, 1) := by decide +kernel
theorem dX1_right_46 : decode cX1_right 46 = .ok (.iload_n 3, 1) := by decide +kernel
theorem dX1_right_47 : decode cX1_right 47 = .ok (.aload_n 0, 1) := by decide +kernel
theorem dX1_right_48 : decode cX1_right 48 = .ok (.getfield 20, 3) := by decide +kernel
theorem dX1_right_51 : decode cX1_right 51 = .ok (.iload_n 1, 1) := by decide +kernel
theorem dX1_right_52 : decode cX1_right 52 = .ok (.iaload, 1) := by decide +kernel
theorem dX1_right_53 : decode cX1_right 53 = .ok (.if_icmp .ge 37, 3) := by decide +kernel
theorem dX1_right_56 : decode cX1_right 56 = .ok (.iload_n 2, 1) := by decide +kernel
theorem dX1_right_57 : decode cX1_right 57 = .ok (.aload_n 0, 1) := by decide +kernel
theorem dX1_right_58 : decode cX1_right 58 = .ok (.getfield 23, 3) := by decide +kernel
theorem dX1_right_61 : decode cX1_right 61 = .ok (.iload_n 3, 1) := by decide +kernel
theorem dX1_right_62 : decode cX1_right 62 = .ok (.iaload, 1) := by decide +kernel
theorem dX1_right_63 : decode cX1_right 63 = .ok (.aload_n 0, 1) := by decide +kernel
theorem dX1_right_64 : decode cX1_right 64 = .ok (.getfield 23, 3) := by decide +kernel
theorem dX1_right_67 : decode cX1_right 67 = .ok (.aload_n 0, 1) := by decide +kernel
theorem dX1_right_68 : decode cX1_right 68 = .ok (.getfield 20, 3) := by decide +kernel
theorem dX1_right_71 : decode cX1_right 71 = .ok (.iload_n 1, 1) := by decide +kernel
theorem dX1_right_72 : decode cX1_right 72 = .ok (.iaload, 1) := by decide +kernel
theorem dX1_right_73 : decode cX1_right 73 = .ok (.iaload, 1) := by decide +kernel
theorem dX1_right_74 : decode cX1_right 74 = .ok (.if_icmp .ne 7, 3) := by decide +kernel
theorem dX1_right_77 : decode cX1_right 77 = .ok (.iconst 1, 1) := by decide +kernel
theorem dX1_right_78 : decode cX1_right 78 = .ok (.goto 4, 3) := by decide +kernel
theorem dX1_right_81 : decode cX1_right 81 = .ok (.iconst 0, 1) := by decide +kernel
theorem dX1_right_82 : decode cX1_right 82 = .ok (.iadd, 1) := by decide +kernel
theorem dX1_right_83 : decode cX1_right 83 = .ok (.istore_n 2, 1) := by decide +kernel
theorem dX1_right_84 : decode cX1_right 84 = .ok (.iinc 3 1, 3) := by decide +kernel
theorem dX1_right_87 : decode cX1_right 87 = .ok (.goto (-41), 3) := by decide +kernel
theorem dX1_right_90 : decode cX1_right 90 = .ok (.iload_n 2, 1) := by decide +kernel
theorem dX1_right_91 : decode cX1_right 91 = .ok (.ireturn, 1) := by decide +kernel
theorem dX1_isMendedNow_0 : decode cX1_isMendedNow 0 = .ok (.aload_n 0, 1) := by decide +kernel
theorem dX1_isMendedNow_1 : decode cX1_isMendedNow 1 = .ok (.getfield 85, 3) := by decide +kernel
theorem dX1_isMendedNow_4 : decode cX1_isMendedNow 4 = .ok (.iload_n 1, 1) := by decide +kernel
theorem dX1_isMendedNow_5 : decode cX1_isMendedNow 5 = .ok (.ishr, 1) := by decide +kernel
theorem dX1_isMendedNow_6 : decode cX1_isMendedNow 6 = .ok (.iconst 1, 1) := by decide +kernel
theorem dX1_isMendedNow_7 : decode cX1_isMendedNow 7 = .ok (.iand, 1) := by decide +kernel
theorem dX1_isMendedNow_8 : decode cX1_isMendedNow 8 = .ok (.iconst 1, 1) := by decide +kernel
theorem dX1_isMendedNow_9 : decode cX1_isMendedNow 9 = .ok (.if_icmp .ne 7, 3) := by decide +kernel
theorem dX1_isMendedNow_12 : decode cX1_isMendedNow 12 = .ok (.iconst 1, 1) := by decide +kernel
theorem dX1_isMendedNow_13 : decode cX1_isMendedNow 13 = .ok (.goto 4, 3) := by decide +kernel
theorem dX1_isMendedNow_16 : decode cX1_isMendedNow 16 = .ok (.iconst 0, 1) := by decide +kernel
theorem dX1_isMendedNow_17 : decode cX1_isMendedNow 17 = .ok (.ireturn, 1) := by decide +kernel
theorem dX1_isOpen_0 : decode cX1_isOpen 0 = .ok (.aload_n 0, 1) := by decide +kernel
theorem dX1_isOpen_1 : decode cX1_isOpen 1 = .ok (.iload_n 1, 1) := by decide +kernel
theorem dX1_isOpen_2 : decode cX1_isOpen 2 = .ok (.invokevirtual 88, 3) := by decide +kernel
theorem dX1_isOpen_5 : decode cX1_isOpen 5 = .ok (.ifCond .ne 16, 3) := by decide +kernel
theorem dX1_isOpen_8 : decode cX1_isOpen 8 = .ok (.aload_n 0, 1) := by decide +kernel
theorem dX1_isOpen_9 : decode cX1_isOpen 9 = .ok (.iload_n 1, 1) := by decide +kernel
theorem dX1_isOpen_10 : decode cX1_isOpen 10 = .ok (.invokevirtual 91, 3) := by decide +kernel
theorem dX1_isOpen_13 : decode cX1_isOpen 13 = .ok (.iconst 1, 1) := by decide +kernel
theorem dX1_isOpen_14 : decode cX1_isOpen 14 = .ok (.if_icmp .le 7, 3) := by decide +kernel
theorem dX1_isOpen_17 : decode cX1_isOpen 17 = .ok (.iconst 1, 1) := by decide +kernel
theorem dX1_isOpen_18 : decode cX1_isOpen 18 = .ok (.goto 4, 3) := by decide +kernel
theorem dX1_isOpen_21 : decode cX1_isOpen 21 = .ok (.iconst 0, 1) := by decide +kernel
theorem dX1_isOpen_22 : decode cX1_isOpen 22 = .ok (.ireturn, 1) := by decide +kernel
theorem dX1_open_0 : decode cX1_open 0 = .ok (.iconst 0, 1) := by decide +kernel
theorem dX1_open_1 : decode cX1_open 1 = .ok (.istore_n 1, 1) := by decide +kernel
theorem dX1_open_2 : decode cX1_open 2 = .ok (.iconst 0, 1) := by decide +kernel
theorem dX1_open_3 : decode cX1_open 3 = .ok (.istore_n 2, 1) := by decide +kernel
theorem dX1_open_4 : decode cX1_open 4 = .ok (.iload_n 2, 1) := by decide +kernel
theorem dX1_open_5 : decode cX1_open 5 = .ok (.aload_n 0, 1) := by decide +kernel
theorem dX1_open_6 : decode cX1_open 6 = .ok (.getfield 38, 3) := by decide +kernel
theorem dX1_open_9 : decode cX1_open 9 = .ok (.if_icmp .ge 25, 3) := by decide +kernel
theorem dX1_open_12 : decode cX1_open 12 = .ok (.iload_n 1, 1) := by decide +kernel
theorem dX1_open_13 : decode cX1_open 13 = .ok (.aload_n 0, 1) := by decide +kernel
theorem dX1_open_14 : decode cX1_open 14 = .ok (.iload_n 2, 1) := by decide +kernel
theorem dX1_open_15 : decode cX1_open 15 = .ok (.invokevirtual 94, 3) := by decide +kernel
theorem dX1_open_18 : decode cX1_open 18 = .ok (.ifCond .eq 7, 3) := by decide +kernel
theorem dX1_open_21 : decode cX1_open 21 = .ok (.iconst 1, 1) := by decide +kernel
theorem dX1_open_22 : decode cX1_open 22 = .ok (.goto 4, 3) := by decide +kernel
theorem dX1_open_25 : decode cX1_open 25 = .ok (.iconst 0, 1) := by decide +kernel
theorem dX1_open_26 : decode cX1_open 26 = .ok (.iadd, 1) := by decide +kernel
theorem dX1_open_27 : decode cX1_open 27 = .ok (.istore_n 1, 1) := by decide +kernel
theorem dX1_open_28 : decode cX1_open 28 = .ok (.iinc 2 1, 3) := by decide +kernel
theorem dX1_open_31 : decode cX1_open 31 = .ok (.goto (-27), 3) := by decide +kernel
theorem dX1_open_34 : decode cX1_open 34 = .ok (.iload_n 1, 1) := by decide +kernel
theorem dX1_open_35 : decode cX1_open 35 = .ok (.ireturn, 1) := by decide +kernel
theorem dX1_all_0 : decode cX1_all 0 = .ok (.lconst 1, 1) := by decide +kernel
theorem dX1_all_1 : decode cX1_all 1 = .ok (.lstore_n 1, 1) := by decide +kernel
theorem dX1_all_2 : decode cX1_all 2 = .ok (.iconst 0, 1) := by decide +kernel
theorem dX1_all_3 : decode cX1_all 3 = .ok (.istore_n 3, 1) := by decide +kernel
theorem dX1_all_4 : decode cX1_all 4 = .ok (.iload_n 3, 1) := by decide +kernel
theorem dX1_all_5 : decode cX1_all 5 = .ok (.aload_n 0, 1) := by decide +kernel
theorem dX1_all_6 : decode cX1_all 6 = .ok (.getfield 38, 3) := by decide +kernel
theorem dX1_all_9 : decode cX1_all 9 = .ok (.if_icmp .ge 32, 3) := by decide +kernel
theorem dX1_all_12 : decode cX1_all 12 = .ok (.aload_n 0, 1) := by decide +kernel
theorem dX1_all_13 : decode cX1_all 13 = .ok (.iload_n 3, 1) := by decide +kernel
theorem dX1_all_14 : decode cX1_all 14 = .ok (.invokevirtual 94, 3) := by decide +kernel
theorem dX1_all_17 : decode cX1_all 17 = .ok (.ifCond .eq 18, 3) := by decide +kernel
theorem dX1_all_20 : decode cX1_all 20 = .ok (.ldc2_w 97, 3) := by decide +kernel
theorem dX1_all_23 : decode cX1_all 23 = .ok (.lload_n 1, 1) := by decide +kernel
theorem dX1_all_24 : decode cX1_all 24 = .ok (.aload_n 0, 1) := by decide +kernel
theorem dX1_all_25 : decode cX1_all 25 = .ok (.iload_n 3, 1) := by decide +kernel
theorem dX1_all_26 : decode cX1_all 26 = .ok (.invokevirtual 91, 3) := by decide +kernel
theorem dX1_all_29 : decode cX1_all 29 = .ok (.i2l, 1) := by decide +kernel
theorem dX1_all_30 : decode cX1_all 30 = .ok (.lmul, 1) := by decide +kernel
theorem dX1_all_31 : decode cX1_all 31 = .ok (.invokestatic 99, 3) := by decide +kernel
theorem dX1_all_34 : decode cX1_all 34 = .ok (.lstore_n 1, 1) := by decide +kernel
theorem dX1_all_35 : decode cX1_all 35 = .ok (.iinc 3 1, 3) := by decide +kernel
theorem dX1_all_38 : decode cX1_all 38 = .ok (.goto (-34), 3) := by decide +kernel
theorem dX1_all_41 : decode cX1_all 41 = .ok (.lload_n 1, 1) := by decide +kernel
theorem dX1_all_42 : decode cX1_all 42 = .ok (.lreturn, 1) := by decide +kernel
theorem dX1_openBy_0 : decode cX1_openBy 0 = .ok (.aload_n 0, 1) := by decide +kernel
theorem dX1_openBy_1 : decode cX1_openBy 1 = .ok (.iload_n 1, 1) := by decide +kernel
theorem dX1_openBy_2 : decode cX1_openBy 2 = .ok (.invokevirtual 68, 3) := by decide +kernel
theorem dX1_openBy_5 : decode cX1_openBy 5 = .ok (.iconst 0, 1) := by decide +kernel
theorem dX1_openBy_6 : decode cX1_openBy 6 = .ok (.istore_n 2, 1) := by decide +kernel
theorem dX1_openBy_7 : decode cX1_openBy 7 = .ok (.iconst 0, 1) := by decide +kernel
theorem dX1_openBy_8 : decode cX1_openBy 8 = .ok (.istore_n 3, 1) := by decide +kernel
theorem dX1_openBy_9 : decode cX1_openBy 9 = .ok (.iload_n 3, 1) := by decide +kernel
theorem dX1_openBy_10 : decode cX1_openBy 10 = .ok (.aload_n 0, 1) := by decide +kernel
theorem dX1_openBy_11 : decode cX1_openBy 11 = .ok (.getfield 38, 3) := by decide +kernel
theorem dX1_openBy_14 : decode cX1_openBy 14 = .ok (.if_icmp .ge 27, 3) := by decide +kernel
theorem dX1_openBy_17 : decode cX1_openBy 17 = .ok (.iload_n 2, 1) := by decide +kernel
theorem dX1_openBy_18 : decode cX1_openBy 18 = .ok (.aload_n 0, 1) := by decide +kernel
theorem dX1_openBy_19 : decode cX1_openBy 19 = .ok (.iload_n 3, 1) := by decide +kernel
theorem dX1_openBy_20 : decode cX1_openBy 20 = .ok (.iload_n 1, 1) := by decide +kernel
theorem dX1_openBy_21 : decode cX1_openBy 21 = .ok (.invokevirtual 82, 3) := by decide +kernel
theorem dX1_openBy_24 : decode cX1_openBy 24 = .ok (.iconst 1, 1) := by decide +kernel
theorem dX1_openBy_25 : decode cX1_openBy 25 = .ok (.if_icmp .le 7, 3) := by decide +kernel
theorem dX1_openBy_28 : decode cX1_openBy 28 = .ok (.iconst 1, 1) := by decide +kernel
theorem dX1_openBy_29 : decode cX1_openBy 29 = .ok (.goto 4, 3) := by decide +kernel
theorem dX1_openBy_32 : decode cX1_openBy 32 = .ok (.iconst 0, 1) := by decide +kernel
theorem dX1_openBy_33 : decode cX1_openBy 33 = .ok (.iadd, 1) := by decide +kernel
theorem dX1_openBy_34 : decode cX1_openBy 34 = .ok (.istore_n 2, 1) := by decide +kernel
theorem dX1_openBy_35 : decode cX1_openBy 35 = .ok (.iinc 3 1, 3) := by decide +kernel
theorem dX1_openBy_38 : decode cX1_openBy 38 = .ok (.goto (-29), 3) := by decide +kernel
theorem dX1_openBy_41 : decode cX1_openBy 41 = .ok (.iload_n 2, 1) := by decide +kernel
theorem dX1_openBy_42 : decode cX1_openBy 42 = .ok (.ireturn, 1) := by decide +kernel
theorem dX1_openWith_0 : decode cX1_openWith 0 = .ok (.aload_n 0, 1) := by decide +kernel
theorem dX1_openWith_1 : decode cX1_openWith 1 = .ok (.getfield 23, 3) := by decide +kernel
theorem dX1_openWith_4 : decode cX1_openWith 4 = .ok (.iload_n 1, 1) := by decide +kernel
theorem dX1_openWith_5 : decode cX1_openWith 5 = .ok (.iaload, 1) := by decide +kernel
theorem dX1_openWith_6 : decode cX1_openWith 6 = .ok (.istore_n 3, 1) := by decide +kernel
theorem dX1_openWith_7 : decode cX1_openWith 7 = .ok (.aload_n 0, 1) := by decide +kernel
theorem dX1_openWith_8 : decode cX1_openWith 8 = .ok (.getfield 23, 3) := by decide +kernel
theorem dX1_openWith_11 : decode cX1_openWith 11 = .ok (.iload_n 1, 1) := by decide +kernel
theorem dX1_openWith_12 : decode cX1_openWith 12 = .ok (.iload_n 2, 1) := by decide +kernel
theorem dX1_openWith_13 : decode cX1_openWith 13 = .ok (.iastore, 1) := by decide +kernel
theorem dX1_openWith_14 : decode cX1_openWith 14 = .ok (.aload_n 0, 1) := by decide +kernel
theorem dX1_openWith_15 : decode cX1_openWith 15 = .ok (.aload_n 0, 1) := by decide +kernel
theorem dX1_openWith_16 : decode cX1_openWith 16 = .ok (.getfield 7, 3) := by decide +kernel
theorem dX1_openWith_19 : decode cX1_openWith 19 = .ok (.invokevirtual 103, 3) := by decide +kernel
theorem dX1_openWith_22 : decode cX1_openWith 22 = .ok (.istore 4, 2) := by decide +kernel
theorem dX1_openWith_24 : decode cX1_openWith 24 = .ok (.aload_n 0, 1) := by decide +kernel
theorem dX1_openWith_25 : decode cX1_openWith 25 = .ok (.getfield 23, 3) := by decide +kernel
theorem dX1_openWith_28 : decode cX1_openWith 28 = .ok (.iload_n 1, 1) := by decide +kernel
theorem dX1_openWith_29 : decode cX1_openWith 29 = .ok (.iload_n 3, 1) := by decide +kernel
theorem dX1_openWith_30 : decode cX1_openWith 30 = .ok (.iastore, 1) := by decide +kernel
theorem dX1_openWith_31 : decode cX1_openWith 31 = .ok (.iload 4, 2) := by decide +kernel
theorem dX1_openWith_33 : decode cX1_openWith 33 = .ok (.ireturn, 1) := by decide +kernel
theorem dX1_wordFor_0 : decode cX1_wordFor 0 = .ok (.iconst 0, 1) := by decide +kernel
theorem dX1_wordFor_1 : decode cX1_wordFor 1 = .ok (.istore_n 2, 1) := by decide +kernel
theorem dX1_wordFor_2 : decode cX1_wordFor 2 = .ok (.iconst 1, 1) := by decide +kernel
theorem dX1_wordFor_3 : decode cX1_wordFor 3 = .ok (.istore_n 3, 1) := by decide +kernel
theorem dX1_wordFor_4 : decode cX1_wordFor 4 = .ok (.iload_n 3, 1) := by decide +kernel
theorem dX1_wordFor_5 : decode cX1_wordFor 5 = .ok (.bipush 10, 2) := by decide +kernel
theorem dX1_wordFor_7 : decode cX1_wordFor 7 = .ok (.if_icmp .ge 26, 3) := by decide +kernel
theorem dX1_wordFor_10 : decode cX1_wordFor 10 = .ok (.aload_n 0, 1) := by decide +kernel
theorem dX1_wordFor_11 : decode cX1_wordFor 11 = .ok (.iload_n 1, 1) := by decide +kernel
theorem dX1_wordFor_12 : decode cX1_wordFor 12 = .ok (.iload_n 3, 1) := by decide +kernel
theorem dX1_wordFor_13 : decode cX1_wordFor 13 = .ok (.invokevirtual 106, 3) := by decide +kernel
theorem dX1_wordFor_16 : decode cX1_wordFor 16 = .ok (.aload_n 0, 1) := by decide +kernel
theorem dX1_wordFor_17 : decode cX1_wordFor 17 = .ok (.iload_n 1, 1) := by decide +kernel
theorem dX1_wordFor_18 : decode cX1_wordFor 18 = .ok (.iload_n 2, 1) := by decide +kernel
theorem dX1_wordFor_19 : decode cX1_wordFor 19 = .ok (.invokevirtual 106, 3) := by decide +kernel
theorem dX1_wordFor_22 : decode cX1_wordFor 22 = .ok (.if_icmp .ge 5, 3) := by decide +kernel
theorem dX1_wordFor_25 : decode cX1_wordFor 25 = .ok (.iload_n 3, 1) := by decide +kernel
theorem dX1_wordFor_26 : decode cX1_wordFor 26 = .ok (.istore_n 2, 1) := by decide +kernel
theorem dX1_wordFor_27 : decode cX1_wordFor 27 = .ok (.iinc 3 1, 3) := by decide +kernel
theorem dX1_wordFor_30 : decode cX1_wordFor 30 = .ok (.goto (-26), 3) := by decide +kernel
theorem dX1_wordFor_33 : decode cX1_wordFor 33 = .ok (.iload_n 2, 1) := by decide +kernel
theorem dX1_wordFor_34 : decode cX1_wordFor 34 = .ok (.ireturn, 1) := by decide +kernel
theorem dX1_stepFor_0 : decode cX1_stepFor 0 = .ok (.iconst 1, 1) := by decide +kernel
theorem dX1_stepFor_1 : decode cX1_stepFor 1 = .ok (.istore_n 1, 1) := by decide +kernel
theorem dX1_stepFor_2 : decode cX1_stepFor 2 = .ok (.iconst 2, 1) := by decide +kernel
theorem dX1_stepFor_3 : decode cX1_stepFor 3 = .ok (.istore_n 2, 1) := by decide +kernel
theorem dX1_stepFor_4 : decode cX1_stepFor 4 = .ok (.iload_n 2, 1) := by decide +kernel
theorem dX1_stepFor_5 : decode cX1_stepFor 5 = .ok (.iconst 4, 1) := by decide +kernel
theorem dX1_stepFor_6 : decode cX1_stepFor 6 = .ok (.if_icmp .gt 24, 3) := by decide +kernel
theorem dX1_stepFor_9 : decode cX1_stepFor 9 = .ok (.aload_n 0, 1) := by decide +kernel
theorem dX1_stepFor_10 : decode cX1_stepFor 10 = .ok (.iload_n 2, 1) := by decide +kernel
theorem dX1_stepFor_11 : decode cX1_stepFor 11 = .ok (.invokevirtual 103, 3) := by decide +kernel
theorem dX1_stepFor_14 : decode cX1_stepFor 14 = .ok (.aload_n 0, 1) := by decide +kernel
theorem dX1_stepFor_15 : decode cX1_stepFor 15 = .ok (.iload_n 1, 1) := by decide +kernel
theorem dX1_stepFor_16 : decode cX1_stepFor 16 = .ok (.invokevirtual 103, 3) := by decide +kernel
theorem dX1_stepFor_19 : decode cX1_stepFor 19 = .ok (.if_icmp .ge 5, 3) := by decide +kernel
theorem dX1_stepFor_22 : decode cX1_stepFor 22 = .ok (.iload_n 2, 1) := by decide +kernel
theorem dX1_stepFor_23 : decode cX1_stepFor 23 = .ok (.istore_n 1, 1) := by decide +kernel
theorem dX1_stepFor_24 : decode cX1_stepFor 24 = .ok (.iinc 2 1, 3) := by decide +kernel
theorem dX1_stepFor_27 : decode cX1_stepFor 27 = .ok (.goto (-23), 3) := by decide +kernel
theorem dX1_stepFor_30 : decode cX1_stepFor 30 = .ok (.iload_n 1, 1) := by decide +kernel
theorem dX1_stepFor_31 : decode cX1_stepFor 31 = .ok (.ireturn, 1) := by decide +kernel
theorem dX1_addLeg_0 : decode cX1_addLeg 0 = .ok (.aload_n 0, 1) := by decide +kernel
theorem dX1_addLeg_1 : decode cX1_addLeg 1 = .ok (.iconst 0, 1) := by decide +kernel
theorem dX1_addLeg_2 : decode cX1_addLeg 2 = .ok (.putfield 35, 3) := by decide +kernel
theorem dX1_addLeg_5 : decode cX1_addLeg 5 = .ok (.iload_n 1, 1) := by decide +kernel
theorem dX1_addLeg_6 : decode cX1_addLeg 6 = .ok (.bipush (-3), 2) := by decide +kernel
theorem dX1_addLeg_8 : decode cX1_addLeg 8 = .ok (.iconst 3, 1) := by decide +kernel
theorem dX1_addLeg_9 : decode cX1_addLeg 9 = .ok (.invokestatic 41, 3) := by decide +kernel
theorem dX1_addLeg_12 : decode cX1_addLeg 12 = .ok (.ifCond .eq 20, 3) := by decide +kernel
theorem dX1_addLeg_15 : decode cX1_addLeg 15 = .ok (.iload_n 2, 1) := by decide +kernel
theorem dX1_addLeg_16 : decode cX1_addLeg 16 = .ok (.iconst 1, 1) := by decide +kernel
theorem dX1_addLeg_17 : decode cX1_addLeg 17 = .ok (.bipush 9, 2) := by decide +kernel
theorem dX1_addLeg_19 : decode cX1_addLeg 19 = .ok (.invokestatic 41, 3) := by decide +kernel
theorem dX1_addLeg_22 : decode cX1_addLeg 22 = .ok (.ifCond .eq 10, 3) := by decide +kernel
theorem dX1_addLeg_25 : decode cX1_addLeg 25 = .ok (.iload_n 3, 1) := by decide +kernel
theorem dX1_addLeg_26 : decode cX1_addLeg 26 = .ok (.invokestatic 109, 3) := by decide +kernel
theorem dX1_addLeg_29 : decode cX1_addLeg 29 = .ok (.ifCond .ne 9, 3) := by decide +kernel
theorem dX1_addLeg_32 : decode cX1_addLeg 32 = .ok (.aload_n 0, 1) := by decide +kernel
theorem dX1_addLeg_33 : decode cX1_addLeg 33 = .ok (.iconst 1, 1) := by decide +kernel
theorem dX1_addLeg_34 : decode cX1_addLeg 34 = .ok (.invokevirtual 112, 3) := by decide +kernel
theorem dX1_addLeg_37 : decode cX1_addLeg 37 = .ok (.ireturn, 1) := by decide +kernel
theorem dX1_addLeg_38 : decode cX1_addLeg 38 = .ok (.aload_n 0, 1) := by decide +kernel
theorem dX1_addLeg_39 : decode cX1_addLeg 39 = .ok (.getfield 38, 3) := by decide +kernel
theorem dX1_addLeg_42 : decode cX1_addLeg 42 = .ok (.bipush 16, 2) := by decide +kernel
theorem dX1_addLeg_44 : decode cX1_addLeg 44 = .ok (.if_icmp .ne 9, 3) := by decide +kernel
theorem dX1_addLeg_47 : decode cX1_addLeg 47 = .ok (.aload_n 0, 1) := by decide +kernel
theorem dX1_addLeg_48 : decode cX1_addLeg 48 = .ok (.iconst 2, 1) := by decide +kernel
theorem dX1_addLeg_49 : decode cX1_addLeg 49 = .ok (.invokevirtual 112, 3) := by decide +kernel
theorem dX1_addLeg_52 : decode cX1_addLeg 52 = .ok (.ireturn, 1) := by decide +kernel
theorem dX1_addLeg_53 : decode cX1_addLeg 53 = .ok (.aload_n 0, 1) := by decide +kernel
theorem dX1_addLeg_54 : decode cX1_addLeg 54 = .ok (.getfield 13, 3) := by decide +kernel
theorem dX1_addLeg_57 : decode cX1_addLeg 57 = .ok (.aload_n 0, 1) := by decide +kernel
theorem dX1_addLeg_58 : decode cX1_addLeg 58 = .ok (.getfield 38, 3) := by decide +kernel
theorem dX1_addLeg_61 : decode cX1_addLeg 61 = .ok (.iload_n 1, 1) := by decide +kernel
theorem dX1_addLeg_62 : decode cX1_addLeg 62 = .ok (.iastore, 1) := by decide +kernel
theorem dX1_addLeg_63 : decode cX1_addLeg 63 = .ok (.aload_n 0, 1) := by decide +kernel
theorem dX1_addLeg_64 : decode cX1_addLeg 64 = .ok (.getfield 17, 3) := by decide +kernel
theorem dX1_addLeg_67 : decode cX1_addLeg 67 = .ok (.aload_n 0, 1) := by decide +kernel
theorem dX1_addLeg_68 : decode cX1_addLeg 68 = .ok (.getfield 38, 3) := by decide +kernel
theorem dX1_addLeg_71 : decode cX1_addLeg 71 = .ok (.iload_n 2, 1) := by decide +kernel
theorem dX1_addLeg_72 : decode cX1_addLeg 72 = .ok (.iastore, 1) := by decide +kernel
theorem dX1_addLeg_73 : decode cX1_addLeg 73 = .ok (.aload_n 0, 1) := by decide +kernel
theorem dX1_addLeg_74 : decode cX1_addLeg 74 = .ok (.getfield 20, 3) := by decide +kernel
theorem dX1_addLeg_77 : decode cX1_addLeg 77 = .ok (.aload_n 0, 1) := by decide +kernel
theorem dX1_addLeg_78 : decode cX1_addLeg 78 = .ok (.getfield 38, 3) := by decide +kernel
theorem dX1_addLeg_81 : decode cX1_addLeg 81 = .ok (.iload_n 3, 1) := by decide +kernel
theorem dX1_addLeg_82 : decode cX1_addLeg 82 = .ok (.iastore, 1) := by decide +kernel
theorem dX1_addLeg_83 : decode cX1_addLeg 83 = .ok (.aload_n 0, 1) := by decide +kernel
theorem dX1_addLeg_84 : decode cX1_addLeg 84 = .ok (.dup, 1) := by decide +kernel
theorem dX1_addLeg_85 : decode cX1_addLeg 85 = .ok (.getfield 38, 3) := by decide +kernel
theorem dX1_addLeg_88 : decode cX1_addLeg 88 = .ok (.iconst 1, 1) := by decide +kernel
theorem dX1_addLeg_89 : decode cX1_addLeg 89 = .ok (.iadd, 1) := by decide +kernel
theorem dX1_addLeg_90 : decode cX1_addLeg 90 = .ok (.putfield 38, 3) := by decide +kernel
theorem dX1_addLeg_93 : decode cX1_addLeg 93 = .ok (.aload_n 0, 1) := by decide +kernel
theorem dX1_addLeg_94 : decode cX1_addLeg 94 = .ok (.getfield 38, 3) := by decide +kernel
theorem dX1_addLeg_97 : decode cX1_addLeg 97 = .ok (.iconst 1, 1) := by decide +kernel
theorem dX1_addLeg_98 : decode cX1_addLeg 98 = .ok (.isub, 1) := by decide +kernel
theorem dX1_addLeg_99 : decode cX1_addLeg 99 = .ok (.ireturn, 1) := by decide +kernel
theorem dX1_strikeLeg_0 : decode cX1_strikeLeg 0 = .ok (.aload_n 0, 1) := by decide +kernel
theorem dX1_strikeLeg_1 : decode cX1_strikeLeg 1 = .ok (.iconst 0, 1) := by decide +kernel
theorem dX1_strikeLeg_2 : decode cX1_strikeLeg 2 = .ok (.putfield 35, 3) := by decide +kernel
theorem dX1_strikeLeg_5 : decode cX1_strikeLeg 5 = .ok (.aload_n 0, 1) := by decide +kernel
theorem dX1_strikeLeg_6 : decode cX1_strikeLeg 6 = .ok (.getfield 38, 3) := by decide +kernel
theorem dX1_strikeLeg_9 : decode cX1_strikeLeg 9 = .ok (.ifCond .ne 9, 3) := by decide +kernel
theorem dX1_strikeLeg_12 : decode cX1_strikeLeg 12 = .ok (.aload_n 0, 1) := by decide +kernel
theorem dX1_strikeLeg_13 : decode cX1_strikeLeg 13 = .ok (.iconst 1, 1) := by decide +kernel
theorem dX1_strikeLeg_14 : decode cX1_strikeLeg 14 = .ok (.invokevirtual 112, 3) := by decide +kernel
theorem dX1_strikeLeg_17 : decode cX1_strikeLeg 17 = .ok (.ireturn, 1) := by decide +kernel
theorem dX1_strikeLeg_18 : decode cX1_strikeLeg 18 = .ok (.aload_n 0, 1) := by decide +kernel
theorem dX1_strikeLeg_19 : decode cX1_strikeLeg 19 = .ok (.dup, 1) := by decide +kernel
theorem dX1_strikeLeg_20 : decode cX1_strikeLeg 20 = .ok (.getfield 38, 3) := by decide +kernel
theorem dX1_strikeLeg_23 : decode cX1_strikeLeg 23 = .ok (.iconst 1, 1) := by decide +kernel
theorem dX1_strikeLeg_24 : decode cX1_strikeLeg 24 = .ok (.isub, 1) := by decide +kernel
theorem dX1_strikeLeg_25 : decode cX1_strikeLeg 25 = .ok (.putfield 38, 3) := by decide +kernel
theorem dX1_strikeLeg_28 : decode cX1_strikeLeg 28 = .ok (.aload_n 0, 1) := by decide +kernel
theorem dX1_strikeLeg_29 : decode cX1_strikeLeg 29 = .ok (.dup, 1) := by decide +kernel
theorem dX1_strikeLeg_30 : decode cX1_strikeLeg 30 = .ok (.getfield 85, 3) := by decide +kernel
theorem dX1_strikeLeg_33 : decode cX1_strikeLeg 33 = .ok (.iconst 1, 1) := by decide +kernel
theorem dX1_strikeLeg_34 : decode cX1_strikeLeg 34 = .ok (.aload_n 0, 1) := by decide +kernel
theorem dX1_strikeLeg_35 : decode cX1_strikeLeg 35 = .ok (.getfield 38, 3) := by decide +kernel
theorem dX1_strikeLeg_38 : decode cX1_strikeLeg 38 = .ok (.ishl, 1) := by decide +kernel
theorem dX1_strikeLeg_39 : decode cX1_strikeLeg 39 = .ok (.iconst (-1), 1) := by decide +kernel
theorem dX1_strikeLeg_40 : decode cX1_strikeLeg 40 = .ok (.ixor, 1) := by decide +kernel
theorem dX1_strikeLeg_41 : decode cX1_strikeLeg 41 = .ok (.iand, 1) := by decide +kernel
theorem dX1_strikeLeg_42 : decode cX1_strikeLeg 42 = .ok (.putfield 85, 3) := by decide +kernel
theorem dX1_strikeLeg_45 : decode cX1_strikeLeg 45 = .ok (.aload_n 0, 1) := by decide +kernel
theorem dX1_strikeLeg_46 : decode cX1_strikeLeg 46 = .ok (.getfield 20, 3) := by decide +kernel
theorem dX1_strikeLeg_49 : decode cX1_strikeLeg 49 = .ok (.aload_n 0, 1) := by decide +kernel
theorem dX1_strikeLeg_50 : decode cX1_strikeLeg 50 = .ok (.getfield 38, 3) := by decide +kernel
theorem dX1_strikeLeg_53 : decode cX1_strikeLeg 53 = .ok (.iaload, 1) := by decide +kernel
theorem dX1_strikeLeg_54 : decode cX1_strikeLeg 54 = .ok (.ireturn, 1) := by decide +kernel
theorem dX1_bend_0 : decode cX1_bend 0 = .ok (.aload_n 0, 1) := by decide +kernel
theorem dX1_bend_1 : decode cX1_bend 1 = .ok (.iconst 0, 1) := by decide +kernel
theorem dX1_bend_2 : decode cX1_bend 2 = .ok (.putfield 35, 3) := by decide +kernel
theorem dX1_bend_5 : decode cX1_bend 5 = .ok (.aload_n 0, 1) := by decide +kernel
theorem dX1_bend_6 : decode cX1_bend 6 = .ok (.iload_n 1, 1) := by decide +kernel
theorem dX1_bend_7 : decode cX1_bend 7 = .ok (.invokevirtual 115, 3) := by decide +kernel
theorem dX1_bend_10 : decode cX1_bend 10 = .ok (.ifCond .ne 9, 3) := by decide +kernel
theorem dX1_bend_13 : decode cX1_bend 13 = .ok (.aload_n 0, 1) := by decide +kernel
theorem dX1_bend_14 : decode cX1_bend 14 = .ok (.iconst 1, 1) := by decide +kernel
theorem dX1_bend_15 : decode cX1_bend 15 = .ok (.invokevirtual 112, 3) := by decide +kernel
theorem dX1_bend_18 : decode cX1_bend 18 = .ok (.ireturn, 1) := by decide +kernel
theorem dX1_bend_19 : decode cX1_bend 19 = .ok (.iload_n 2, 1) := by decide +kernel
theorem dX1_bend_20 : decode cX1_bend 20 = .ok (.bipush (-3), 2) := by decide +kernel
theorem dX1_bend_22 : decode cX1_bend 22 = .ok (.iconst 3, 1) := by decide +kernel
theorem dX1_bend_23 : decode cX1_bend 23 = .ok (.invokestatic 41, 3) := by decide +kernel
theorem dX1_bend_26 : decode cX1_bend 26 = .ok (.ifCond .ne 9, 3) := by decide +kernel
theorem dX1_bend_29 : decode cX1_bend 29 = .ok (.aload_n 0, 1) := by decide +kernel
theorem dX1_bend_30 : decode cX1_bend 30 = .ok (.iconst 2, 1) := by decide +kernel
theorem dX1_bend_31 : decode cX1_bend 31 = .ok (.invokevirtual 112, 3) := by decide +kernel
theorem dX1_bend_34 : decode cX1_bend 34 = .ok (.ireturn, 1) := by decide +kernel
theorem dX1_bend_35 : decode cX1_bend 35 = .ok (.aload_n 0, 1) := by decide +kernel
theorem dX1_bend_36 : decode cX1_bend 36 = .ok (.getfield 13, 3) := by decide +kernel
theorem dX1_bend_39 : decode cX1_bend 39 = .ok (.iload_n 1, 1) := by decide +kernel
theorem dX1_bend_40 : decode cX1_bend 40 = .ok (.iaload, 1) := by decide +kernel
theorem dX1_bend_41 : decode cX1_bend 41 = .ok (.istore_n 3, 1) := by decide +kernel
theorem dX1_bend_42 : decode cX1_bend 42 = .ok (.aload_n 0, 1) := by decide +kernel
theorem dX1_bend_43 : decode cX1_bend 43 = .ok (.getfield 13, 3) := by decide +kernel
theorem dX1_bend_46 : decode cX1_bend 46 = .ok (.iload_n 1, 1) := by decide +kernel
theorem dX1_bend_47 : decode cX1_bend 47 = .ok (.iload_n 2, 1) := by decide +kernel
theorem dX1_bend_48 : decode cX1_bend 48 = .ok (.iastore, 1) := by decide +kernel
theorem dX1_bend_49 : decode cX1_bend 49 = .ok (.aload_n 0, 1) := by decide +kernel
theorem dX1_bend_50 : decode cX1_bend 50 = .ok (.iconst 0, 1) := by decide +kernel
theorem dX1_bend_51 : decode cX1_bend 51 = .ok (.putfield 85, 3) := by decide +kernel
theorem dX1_bend_54 : decode cX1_bend 54 = .ok (.iload_n 3, 1) := by decide +kernel
theorem dX1_bend_55 : decode cX1_bend 55 = .ok (.ireturn, 1) := by decide +kernel
theorem dX1_setWord_0 : decode cX1_setWord 0 = .ok (.aload_n 0, 1) := by decide +kernel
theorem dX1_setWord_1 : decode cX1_setWord 1 = .ok (.iconst 0, 1) := by decide +kernel
theorem dX1_setWord_2 : decode cX1_setWord 2 = .ok (.putfield 35, 3) := by decide +kernel
theorem dX1_setWord_5 : decode cX1_setWord 5 = .ok (.iload_n 1, 1) := by decide +kernel
theorem dX1_setWord_6 : decode cX1_setWord 6 = .ok (.invokestatic 109, 3) := by decide +kernel
theorem dX1_setWord_9 : decode cX1_setWord 9 = .ok (.ifCond .ne 9, 3) := by decide +kernel
theorem dX1_setWord_12 : decode cX1_setWord 12 = .ok (.aload_n 0, 1) := by decide +kernel
theorem dX1_setWord_13 : decode cX1_setWord 13 = .ok (.iconst 1, 1) := by decide +kernel
theorem dX1_setWord_14 : decode cX1_setWord 14 = .ok (.invokevirtual 112, 3) := by decide +kernel
theorem dX1_setWord_17 : decode cX1_setWord 17 = .ok (.ireturn, 1) := by decide +kernel
theorem dX1_setWord_18 : decode cX1_setWord 18 = .ok (.iload_n 2, 1) := by decide +kernel
theorem dX1_setWord_19 : decode cX1_setWord 19 = .ok (.invokestatic 109, 3) := by decide +kernel
theorem dX1_setWord_22 : decode cX1_setWord 22 = .ok (.ifCond .ne 9, 3) := by decide +kernel
theorem dX1_setWord_25 : decode cX1_setWord 25 = .ok (.aload_n 0, 1) := by decide +kernel
theorem dX1_setWord_26 : decode cX1_setWord 26 = .ok (.iconst 2, 1) := by decide +kernel
theorem dX1_setWord_27 : decode cX1_setWord 27 = .ok (.invokevirtual 112, 3) := by decide +kernel
theorem dX1_setWord_30 : decode cX1_setWord 30 = .ok (.ireturn, 1) := by decide +kernel
theorem dX1_setWord_31 : decode cX1_setWord 31 = .ok (.aload_n 0, 1) := by decide +kernel
theorem dX1_setWord_32 : decode cX1_setWord 32 = .ok (.getfield 23, 3) := by decide +kernel
theorem dX1_setWord_35 : decode cX1_setWord 35 = .ok (.iload_n 1, 1) := by decide +kernel
theorem dX1_setWord_36 : decode cX1_setWord 36 = .ok (.iaload, 1) := by decide +kernel
theorem dX1_setWord_37 : decode cX1_setWord 37 = .ok (.istore_n 3, 1) := by decide +kernel
theorem dX1_setWord_38 : decode cX1_setWord 38 = .ok (.aload_n 0, 1) := by decide +kernel
theorem dX1_setWord_39 : decode cX1_setWord 39 = .ok (.getfield 23, 3) := by decide +kernel
theorem dX1_setWord_42 : decode cX1_setWord 42 = .ok (.iload_n 1, 1) := by decide +kernel
theorem dX1_setWord_43 : decode cX1_setWord 43 = .ok (.iload_n 2, 1) := by decide +kernel
theorem dX1_setWord_44 : decode cX1_setWord 44 = .ok (.iastore, 1) := by decide +kernel
theorem dX1_setWord_45 : decode cX1_setWord 45 = .ok (.aload_n 0, 1) := by decide +kernel
theorem dX1_setWord_46 : decode cX1_setWord 46 = .ok (.iconst 0, 1) := by decide +kernel
theorem dX1_setWord_47 : decode cX1_setWord 47 = .ok (.putfield 85, 3) := by decide +kernel
theorem dX1_setWord_50 : decode cX1_setWord 50 = .ok (.iload_n 3, 1) := by decide +kernel
theorem dX1_setWord_51 : decode cX1_setWord 51 = .ok (.ireturn, 1) := by decide +kernel
theorem dX1_setStep_0 : decode cX1_setStep 0 = .ok (.aload_n 0, 1) := by decide +kernel
theorem dX1_setStep_1 : decode cX1_setStep 1 = .ok (.iconst 0, 1) := by decide +kernel
theorem dX1_setStep_2 : decode cX1_setStep 2 = .ok (.putfield 35, 3) := by decide +kernel
theorem dX1_setStep_5 : decode cX1_setStep 5 = .ok (.iload_n 1, 1) := by decide +kernel
theorem dX1_setStep_6 : decode cX1_setStep 6 = .ok (.iconst 1, 1) := by decide +kernel
theorem dX1_setStep_7 : decode cX1_setStep 7 = .ok (.iconst 4, 1) := by decide +kernel
theorem dX1_setStep_8 : decode cX1_setStep 8 = .ok (.invokestatic 41, 3) := by decide +kernel
theorem dX1_setStep_11 : decode cX1_setStep 11 = .ok (.ifCond .ne 9, 3) := by decide +kernel
theorem dX1_setStep_14 : decode cX1_setStep 14 = .ok (.aload_n 0, 1) := by decide +kernel
theorem dX1_setStep_15 : decode cX1_setStep 15 = .ok (.iconst 1, 1) := by decide +kernel
theorem dX1_setStep_16 : decode cX1_setStep 16 = .ok (.invokevirtual 112, 3) := by decide +kernel
theorem dX1_setStep_19 : decode cX1_setStep 19 = .ok (.ireturn, 1) := by decide +kernel
theorem dX1_setStep_20 : decode cX1_setStep 20 = .ok (.aload_n 0, 1) := by decide +kernel
theorem dX1_setStep_21 : decode cX1_setStep 21 = .ok (.getfield 7, 3) := by decide +kernel
theorem dX1_setStep_24 : decode cX1_setStep 24 = .ok (.istore_n 2, 1) := by decide +kernel
theorem dX1_setStep_25 : decode cX1_setStep 25 = .ok (.aload_n 0, 1) := by decide +kernel
theorem dX1_setStep_26 : decode cX1_setStep 26 = .ok (.iload_n 1, 1) := by decide +kernel
theorem dX1_setStep_27 : decode cX1_setStep 27 = .ok (.putfield 7, 3) := by decide +kernel
theorem dX1_setStep_30 : decode cX1_setStep 30 = .ok (.aload_n 0, 1) := by decide +kernel
theorem dX1_setStep_31 : decode cX1_setStep 31 = .ok (.iconst 0, 1) := by decide +kernel
theorem dX1_setStep_32 : decode cX1_setStep 32 = .ok (.putfield 85, 3) := by decide +kernel
theorem dX1_setStep_35 : decode cX1_setStep 35 = .ok (.iload_n 2, 1) := by decide +kernel
theorem dX1_setStep_36 : decode cX1_setStep 36 = .ok (.ireturn, 1) := by decide +kernel
theorem dX1_legs_0 : decode cX1_legs 0 = .ok (.aload_n 0, 1) := by decide +kernel
theorem dX1_legs_1 : decode cX1_legs 1 = .ok (.aload_n 0, 1) := by decide +kernel
theorem dX1_legs_2 : decode cX1_legs 2 = .ok (.getfield 38, 3) := by decide +kernel
theorem dX1_legs_5 : decode cX1_legs 5 = .ok (.invokevirtual 118, 3) := by decide +kernel
theorem dX1_legs_8 : decode cX1_legs 8 = .ok (.ireturn, 1) := by decide +kernel
theorem dX1_step_0 : decode cX1_step 0 = .ok (.aload_n 0, 1) := by decide +kernel
theorem dX1_step_1 : decode cX1_step 1 = .ok (.aload_n 0, 1) := by decide +kernel
theorem dX1_step_2 : decode cX1_step 2 = .ok (.getfield 7, 3) := by decide +kernel
theorem dX1_step_5 : decode cX1_step 5 = .ok (.invokevirtual 118, 3) := by decide +kernel
theorem dX1_step_8 : decode cX1_step 8 = .ok (.ireturn, 1) := by decide +kernel
theorem dX1_endX_0 : decode cX1_endX 0 = .ok (.aload_n 0, 1) := by decide +kernel
theorem dX1_endX_1 : decode cX1_endX 1 = .ok (.aload_n 0, 1) := by decide +kernel
theorem dX1_endX_2 : decode cX1_endX 2 = .ok (.aload_n 0, 1) := by decide +kernel
theorem dX1_endX_3 : decode cX1_endX 3 = .ok (.getfield 29, 3) := by decide +kernel
theorem dX1_endX_6 : decode cX1_endX 6 = .ok (.invokevirtual 121, 3) := by decide +kernel
theorem dX1_endX_9 : decode cX1_endX 9 = .ok (.invokevirtual 118, 3) := by decide +kernel
theorem dX1_endX_12 : decode cX1_endX 12 = .ok (.ireturn, 1) := by decide +kernel
theorem dX1_endY_0 : decode cX1_endY 0 = .ok (.aload_n 0, 1) := by decide +kernel
theorem dX1_endY_1 : decode cX1_endY 1 = .ok (.aload_n 0, 1) := by decide +kernel
theorem dX1_endY_2 : decode cX1_endY 2 = .ok (.aload_n 0, 1) := by decide +kernel
theorem dX1_endY_3 : decode cX1_endY 3 = .ok (.getfield 32, 3) := by decide +kernel
theorem dX1_endY_6 : decode cX1_endY 6 = .ok (.invokevirtual 121, 3) := by decide +kernel
theorem dX1_endY_9 : decode cX1_endY 9 = .ok (.invokevirtual 118, 3) := by decide +kernel
theorem dX1_endY_12 : decode cX1_endY 12 = .ok (.ireturn, 1) := by decide +kernel
theorem dX1_stepsHome_0 : decode cX1_stepsHome 0 = .ok (.aload_n 0, 1) := by decide +kernel
theorem dX1_stepsHome_1 : decode cX1_stepsHome 1 = .ok (.aload_n 0, 1) := by decide +kernel
theorem dX1_stepsHome_2 : decode cX1_stepsHome 2 = .ok (.invokevirtual 125, 3) := by decide +kernel
theorem dX1_stepsHome_5 : decode cX1_stepsHome 5 = .ok (.invokevirtual 118, 3) := by decide +kernel
theorem dX1_stepsHome_8 : decode cX1_stepsHome 8 = .ok (.ireturn, 1) := by decide +kernel
theorem dX1_returns_0 : decode cX1_returns 0 = .ok (.aload_n 0, 1) := by decide +kernel
theorem dX1_returns_1 : decode cX1_returns 1 = .ok (.aload_n 0, 1) := by decide +kernel
theorem dX1_returns_2 : decode cX1_returns 2 = .ok (.invokevirtual 129, 3) := by decide +kernel
theorem dX1_returns_5 : decode cX1_returns 5 = .ok (.invokevirtual 118, 3) := by decide +kernel
theorem dX1_returns_8 : decode cX1_returns 8 = .ok (.ireturn, 1) := by decide +kernel
theorem dX1_turnOf_0 : decode cX1_turnOf 0 = .ok (.aload_n 0, 1) := by decide +kernel
theorem dX1_turnOf_1 : decode cX1_turnOf 1 = .ok (.iconst 0, 1) := by decide +kernel
theorem dX1_turnOf_2 : decode cX1_turnOf 2 = .ok (.putfield 35, 3) := by decide +kernel
theorem dX1_turnOf_5 : decode cX1_turnOf 5 = .ok (.aload_n 0, 1) := by decide +kernel
theorem dX1_turnOf_6 : decode cX1_turnOf 6 = .ok (.iload_n 1, 1) := by decide +kernel
theorem dX1_turnOf_7 : decode cX1_turnOf 7 = .ok (.invokevirtual 115, 3) := by decide +kernel
theorem dX1_turnOf_10 : decode cX1_turnOf 10 = .ok (.ifCond .eq 12, 3) := by decide +kernel
theorem dX1_turnOf_13 : decode cX1_turnOf 13 = .ok (.aload_n 0, 1) := by decide +kernel
theorem dX1_turnOf_14 : decode cX1_turnOf 14 = .ok (.getfield 13, 3) := by decide +kernel
theorem dX1_turnOf_17 : decode cX1_turnOf 17 = .ok (.iload_n 1, 1) := by decide +kernel
theorem dX1_turnOf_18 : decode cX1_turnOf 18 = .ok (.iaload, 1) := by decide +kernel
theorem dX1_turnOf_19 : decode cX1_turnOf 19 = .ok (.goto 8, 3) := by decide +kernel
theorem dX1_turnOf_22 : decode cX1_turnOf 22 = .ok (.aload_n 0, 1) := by decide +kernel
theorem dX1_turnOf_23 : decode cX1_turnOf 23 = .ok (.iconst 1, 1) := by decide +kernel
theorem dX1_turnOf_24 : decode cX1_turnOf 24 = .ok (.invokevirtual 112, 3) := by decide +kernel
theorem dX1_turnOf_27 : decode cX1_turnOf 27 = .ok (.ireturn, 1) := by decide +kernel
theorem dX1_headingOf_0 : decode cX1_headingOf 0 = .ok (.aload_n 0, 1) := by decide +kernel
theorem dX1_headingOf_1 : decode cX1_headingOf 1 = .ok (.iconst 0, 1) := by decide +kernel
theorem dX1_headingOf_2 : decode cX1_headingOf 2 = .ok (.putfield 35, 3) := by decide +kernel
theorem dX1_headingOf_5 : decode cX1_headingOf 5 = .ok (.aload_n 0, 1) := by decide +kernel
theorem dX1_headingOf_6 : decode cX1_headingOf 6 = .ok (.iload_n 1, 1) := by decide +kernel
theorem dX1_headingOf_7 : decode cX1_headingOf 7 = .ok (.invokevirtual 115, 3) := by decide +kernel
theorem dX1_headingOf_10 : decode cX1_headingOf 10 = .ok (.ifCond .eq 11, 3) := by decide +kernel
theorem dX1_headingOf_13 : decode cX1_headingOf 13 = .ok (.aload_n 0, 1) := by decide +kernel
theorem dX1_headingOf_14 : decode cX1_headingOf 14 = .ok (.iload_n 1, 1) := by decide +kernel
theorem dX1_headingOf_15 : decode cX1_headingOf 15 = .ok (.invokevirtual 48, 3) := by decide +kernel
theorem dX1_headingOf_18 : decode cX1_headingOf 18 = .ok (.goto 8, 3) := by decide +kernel
theorem dX1_headingOf_21 : decode cX1_headingOf 21 = .ok (.aload_n 0, 1) := by decide +kernel
theorem dX1_headingOf_22 : decode cX1_headingOf 22 = .ok (.iconst 1, 1) := by decide +kernel
theorem dX1_headingOf_23 : decode cX1_headingOf 23 = .ok (.invokevirtual 112, 3) := by decide +kernel
theorem dX1_headingOf_26 : decode cX1_headingOf 26 = .ok (.ireturn, 1) := by decide +kernel
theorem dX1_landmarkOf_0 : decode cX1_landmarkOf 0 = .ok (.aload_n 0, 1) := by decide +kernel
theorem dX1_landmarkOf_1 : decode cX1_landmarkOf 1 = .ok (.iconst 0, 1) := by decide +kernel
theorem dX1_landmarkOf_2 : decode cX1_landmarkOf 2 = .ok (.putfield 35, 3) := by decide +kernel
theorem dX1_landmarkOf_5 : decode cX1_landmarkOf 5 = .ok (.aload_n 0, 1) := by decide +kernel
theorem dX1_landmarkOf_6 : decode cX1_landmarkOf 6 = .ok (.iload_n 1, 1) := by decide +kernel
theorem dX1_landmarkOf_7 : decode cX1_landmarkOf 7 = .ok (.invokevirtual 115, 3) := by decide +kernel
theorem dX1_landmarkOf_10 : decode cX1_landmarkOf 10 = .ok (.ifCond .eq 12, 3) := by decide +kernel
theorem dX1_landmarkOf_13 : decode cX1_landmarkOf 13 = .ok (.aload_n 0, 1) := by decide +kernel
theorem dX1_landmarkOf_14 : decode cX1_landmarkOf 14 = .ok (.getfield 20, 3) := by decide +kernel
theorem dX1_landmarkOf_17 : decode cX1_landmarkOf 17 = .ok (.iload_n 1, 1) := by decide +kernel
theorem dX1_landmarkOf_18 : decode cX1_landmarkOf 18 = .ok (.iaload, 1) := by decide +kernel
theorem dX1_landmarkOf_19 : decode cX1_landmarkOf 19 = .ok (.goto 8, 3) := by decide +kernel
theorem dX1_landmarkOf_22 : decode cX1_landmarkOf 22 = .ok (.aload_n 0, 1) := by decide +kernel
theorem dX1_landmarkOf_23 : decode cX1_landmarkOf 23 = .ok (.iconst 1, 1) := by decide +kernel
theorem dX1_landmarkOf_24 : decode cX1_landmarkOf 24 = .ok (.invokevirtual 112, 3) := by decide +kernel
theorem dX1_landmarkOf_27 : decode cX1_landmarkOf 27 = .ok (.ireturn, 1) := by decide +kernel
theorem dX1_noteNow_0 : decode cX1_noteNow 0 = .ok (.aload_n 0, 1) := by decide +kernel
theorem dX1_noteNow_1 : decode cX1_noteNow 1 = .ok (.aload_n 0, 1) := by decide +kernel
theorem dX1_noteNow_2 : decode cX1_noteNow 2 = .ok (.getfield 7, 3) := by decide +kernel
theorem dX1_noteNow_5 : decode cX1_noteNow 5 = .ok (.invokevirtual 68, 3) := by decide +kernel
theorem dX1_noteNow_8 : decode cX1_noteNow 8 = .ok (.aload_n 0, 1) := by decide +kernel
theorem dX1_noteNow_9 : decode cX1_noteNow 9 = .ok (.getfield 26, 3) := by decide +kernel
theorem dX1_noteNow_12 : decode cX1_noteNow 12 = .ok (.iload_n 1, 1) := by decide +kernel
theorem dX1_noteNow_13 : decode cX1_noteNow 13 = .ok (.iconst 1, 1) := by decide +kernel
theorem dX1_noteNow_14 : decode cX1_noteNow 14 = .ok (.iadd, 1) := by decide +kernel
theorem dX1_noteNow_15 : decode cX1_noteNow 15 = .ok (.iaload, 1) := by decide +kernel
theorem dX1_noteNow_16 : decode cX1_noteNow 16 = .ok (.ireturn, 1) := by decide +kernel
theorem dX1_noteOf_0 : decode cX1_noteOf 0 = .ok (.aload_n 0, 1) := by decide +kernel
theorem dX1_noteOf_1 : decode cX1_noteOf 1 = .ok (.iconst 0, 1) := by decide +kernel
theorem dX1_noteOf_2 : decode cX1_noteOf 2 = .ok (.putfield 35, 3) := by decide +kernel
theorem dX1_noteOf_5 : decode cX1_noteOf 5 = .ok (.aload_n 0, 1) := by decide +kernel
theorem dX1_noteOf_6 : decode cX1_noteOf 6 = .ok (.iload_n 1, 1) := by decide +kernel
theorem dX1_noteOf_7 : decode cX1_noteOf 7 = .ok (.invokevirtual 115, 3) := by decide +kernel
theorem dX1_noteOf_10 : decode cX1_noteOf 10 = .ok (.ifCond .eq 11, 3) := by decide +kernel
theorem dX1_noteOf_13 : decode cX1_noteOf 13 = .ok (.aload_n 0, 1) := by decide +kernel
theorem dX1_noteOf_14 : decode cX1_noteOf 14 = .ok (.iload_n 1, 1) := by decide +kernel
theorem dX1_noteOf_15 : decode cX1_noteOf 15 = .ok (.invokevirtual 132, 3) := by decide +kernel
theorem dX1_noteOf_18 : decode cX1_noteOf 18 = .ok (.goto 8, 3) := by decide +kernel
theorem dX1_noteOf_21 : decode cX1_noteOf 21 = .ok (.aload_n 0, 1) := by decide +kernel
theorem dX1_noteOf_22 : decode cX1_noteOf 22 = .ok (.iconst 1, 1) := by decide +kernel
theorem dX1_noteOf_23 : decode cX1_noteOf 23 = .ok (.invokevirtual 112, 3) := by decide +kernel
theorem dX1_noteOf_26 : decode cX1_noteOf 26 = .ok (.ireturn, 1) := by decide +kernel
theorem dX1_isFolded_0 : decode cX1_isFolded 0 = .ok (.aload_n 0, 1) := by decide +kernel
theorem dX1_isFolded_1 : decode cX1_isFolded 1 = .ok (.iconst 0, 1) := by decide +kernel
theorem dX1_isFolded_2 : decode cX1_isFolded 2 = .ok (.putfield 35, 3) := by decide +kernel
theorem dX1_isFolded_5 : decode cX1_isFolded 5 = .ok (.aload_n 0, 1) := by decide +kernel
theorem dX1_isFolded_6 : decode cX1_isFolded 6 = .ok (.iload_n 1, 1) := by decide +kernel
theorem dX1_isFolded_7 : decode cX1_isFolded 7 = .ok (.invokevirtual 115, 3) := by decide +kernel
theorem dX1_isFolded_10 : decode cX1_isFolded 10 = .ok (.ifCond .eq 11, 3) := by decide +kernel
theorem dX1_isFolded_13 : decode cX1_isFolded 13 = .ok (.aload_n 0, 1) := by decide +kernel
theorem dX1_isFolded_14 : decode cX1_isFolded 14 = .ok (.iload_n 1, 1) := by decide +kernel
theorem dX1_isFolded_15 : decode cX1_isFolded 15 = .ok (.invokevirtual 72, 3) := by decide +kernel
theorem dX1_isFolded_18 : decode cX1_isFolded 18 = .ok (.goto 8, 3) := by decide +kernel
theorem dX1_isFolded_21 : decode cX1_isFolded 21 = .ok (.aload_n 0, 1) := by decide +kernel
theorem dX1_isFolded_22 : decode cX1_isFolded 22 = .ok (.iconst 1, 1) := by decide +kernel
theorem dX1_isFolded_23 : decode cX1_isFolded 23 = .ok (.invokevirtual 135, 3) := by decide +kernel
theorem dX1_isFolded_26 : decode cX1_isFolded 26 = .ok (.ireturn, 1) := by decide +kernel
theorem dX1_wordIn_0 : decode cX1_wordIn 0 = .ok (.aload_n 0, 1) := by decide +kernel
theorem dX1_wordIn_1 : decode cX1_wordIn 1 = .ok (.iconst 0, 1) := by decide +kernel
theorem dX1_wordIn_2 : decode cX1_wordIn 2 = .ok (.putfield 35, 3) := by decide +kernel
theorem dX1_wordIn_5 : decode cX1_wordIn 5 = .ok (.aload_n 0, 1) := by decide +kernel
theorem dX1_wordIn_6 : decode cX1_wordIn 6 = .ok (.iload_n 1, 1) := by decide +kernel
theorem dX1_wordIn_7 : decode cX1_wordIn 7 = .ok (.invokevirtual 115, 3) := by decide +kernel
theorem dX1_wordIn_10 : decode cX1_wordIn 10 = .ok (.ifCond .eq 17, 3) := by decide +kernel
theorem dX1_wordIn_13 : decode cX1_wordIn 13 = .ok (.aload_n 0, 1) := by decide +kernel
theorem dX1_wordIn_14 : decode cX1_wordIn 14 = .ok (.getfield 23, 3) := by decide +kernel
theorem dX1_wordIn_17 : decode cX1_wordIn 17 = .ok (.aload_n 0, 1) := by decide +kernel
theorem dX1_wordIn_18 : decode cX1_wordIn 18 = .ok (.getfield 20, 3) := by decide +kernel
theorem dX1_wordIn_21 : decode cX1_wordIn 21 = .ok (.iload_n 1, 1) := by decide +kernel
theorem dX1_wordIn_22 : decode cX1_wordIn 22 = .ok (.iaload, 1) := by decide +kernel
theorem dX1_wordIn_23 : decode cX1_wordIn 23 = .ok (.iaload, 1) := by decide +kernel
theorem dX1_wordIn_24 : decode cX1_wordIn 24 = .ok (.goto 8, 3) := by decide +kernel
theorem dX1_wordIn_27 : decode cX1_wordIn 27 = .ok (.aload_n 0, 1) := by decide +kernel
theorem dX1_wordIn_28 : decode cX1_wordIn 28 = .ok (.iconst 1, 1) := by decide +kernel
theorem dX1_wordIn_29 : decode cX1_wordIn 29 = .ok (.invokevirtual 112, 3) := by decide +kernel
theorem dX1_wordIn_32 : decode cX1_wordIn 32 = .ok (.ireturn, 1) := by decide +kernel
theorem dX1_wordOf_0 : decode cX1_wordOf 0 = .ok (.aload_n 0, 1) := by decide +kernel
theorem dX1_wordOf_1 : decode cX1_wordOf 1 = .ok (.iconst 0, 1) := by decide +kernel
theorem dX1_wordOf_2 : decode cX1_wordOf 2 = .ok (.putfield 35, 3) := by decide +kernel
theorem dX1_wordOf_5 : decode cX1_wordOf 5 = .ok (.iload_n 1, 1) := by decide +kernel
theorem dX1_wordOf_6 : decode cX1_wordOf 6 = .ok (.invokestatic 109, 3) := by decide +kernel
theorem dX1_wordOf_9 : decode cX1_wordOf 9 = .ok (.ifCond .eq 12, 3) := by decide +kernel
theorem dX1_wordOf_12 : decode cX1_wordOf 12 = .ok (.aload_n 0, 1) := by decide +kernel
theorem dX1_wordOf_13 : decode cX1_wordOf 13 = .ok (.getfield 23, 3) := by decide +kernel
theorem dX1_wordOf_16 : decode cX1_wordOf 16 = .ok (.iload_n 1, 1) := by decide +kernel
theorem dX1_wordOf_17 : decode cX1_wordOf 17 = .ok (.iaload, 1) := by decide +kernel
theorem dX1_wordOf_18 : decode cX1_wordOf 18 = .ok (.goto 8, 3) := by decide +kernel
theorem dX1_wordOf_21 : decode cX1_wordOf 21 = .ok (.aload_n 0, 1) := by decide +kernel
theorem dX1_wordOf_22 : decode cX1_wordOf 22 = .ok (.iconst 1, 1) := by decide +kernel
theorem dX1_wordOf_23 : decode cX1_wordOf 23 = .ok (.invokevirtual 112, 3) := by decide +kernel
theorem dX1_wordOf_26 : decode cX1_wordOf 26 = .ok (.ireturn, 1) := by decide +kernel
theorem dX1_allBeats_0 : decode cX1_allBeats 0 = .ok (.iconst 0, 1) := by decide +kernel
theorem dX1_allBeats_1 : decode cX1_allBeats 1 = .ok (.istore_n 1, 1) := by decide +kernel
theorem dX1_allBeats_2 : decode cX1_allBeats 2 = .ok (.iconst 0, 1) := by decide +kernel
theorem dX1_allBeats_3 : decode cX1_allBeats 3 = .ok (.istore_n 2, 1) := by decide +kernel
theorem dX1_allBeats_4 : decode cX1_allBeats 4 = .ok (.iload_n 2, 1) := by decide +kernel
theorem dX1_allBeats_5 : decode cX1_allBeats 5 = .ok (.aload_n 0, 1) := by decide +kernel
theorem dX1_allBeats_6 : decode cX1_allBeats 6 = .ok (.getfield 38, 3) := by decide +kernel
theorem dX1_allBeats_9 : decode cX1_allBeats 9 = .ok (.if_icmp .ge 18, 3) := by decide +kernel
theorem dX1_allBeats_12 : decode cX1_allBeats 12 = .ok (.iload_n 1, 1) := by decide +kernel
theorem dX1_allBeats_13 : decode cX1_allBeats 13 = .ok (.aload_n 0, 1) := by decide +kernel
theorem dX1_allBeats_14 : decode cX1_allBeats 14 = .ok (.getfield 17, 3) := by decide +kernel
theorem dX1_allBeats_17 : decode cX1_allBeats 17 = .ok (.iload_n 2, 1) := by decide +kernel
theorem dX1_allBeats_18 : decode cX1_allBeats 18 = .ok (.iaload, 1) := by decide +kernel
theorem dX1_allBeats_19 : decode cX1_allBeats 19 = .ok (.iadd, 1) := by decide +kernel
theorem dX1_allBeats_20 : decode cX1_allBeats 20 = .ok (.istore_n 1, 1) := by decide +kernel
theorem dX1_allBeats_21 : decode cX1_allBeats 21 = .ok (.iinc 2 1, 3) := by decide +kernel
theorem dX1_allBeats_24 : decode cX1_allBeats 24 = .ok (.goto (-20), 3) := by decide +kernel
theorem dX1_allBeats_27 : decode cX1_allBeats 27 = .ok (.iload_n 1, 1) := by decide +kernel
theorem dX1_allBeats_28 : decode cX1_allBeats 28 = .ok (.ireturn, 1) := by decide +kernel
theorem dX1_beats_0 : decode cX1_beats 0 = .ok (.aload_n 0, 1) := by decide +kernel
theorem dX1_beats_1 : decode cX1_beats 1 = .ok (.aload_n 0, 1) := by decide +kernel
theorem dX1_beats_2 : decode cX1_beats 2 = .ok (.invokevirtual 138, 3) := by decide +kernel
theorem dX1_beats_5 : decode cX1_beats 5 = .ok (.invokevirtual 118, 3) := by decide +kernel
theorem dX1_beats_8 : decode cX1_beats 8 = .ok (.ireturn, 1) := by decide +kernel
theorem dX1_folded_0 : decode cX1_folded 0 = .ok (.aload_n 0, 1) := by decide +kernel
theorem dX1_folded_1 : decode cX1_folded 1 = .ok (.aload_n 0, 1) := by decide +kernel
theorem dX1_folded_2 : decode cX1_folded 2 = .ok (.invokevirtual 141, 3) := by decide +kernel
theorem dX1_folded_5 : decode cX1_folded 5 = .ok (.invokevirtual 118, 3) := by decide +kernel
theorem dX1_folded_8 : decode cX1_folded 8 = .ok (.ireturn, 1) := by decide +kernel
theorem dX1_wide_0 : decode cX1_wide 0 = .ok (.aload_n 0, 1) := by decide +kernel
theorem dX1_wide_1 : decode cX1_wide 1 = .ok (.aload_n 0, 1) := by decide +kernel
theorem dX1_wide_2 : decode cX1_wide 2 = .ok (.getfield 7, 3) := by decide +kernel
theorem dX1_wide_5 : decode cX1_wide 5 = .ok (.invokevirtual 68, 3) := by decide +kernel
theorem dX1_wide_8 : decode cX1_wide 8 = .ok (.iconst 0, 1) := by decide +kernel
theorem dX1_wide_9 : decode cX1_wide 9 = .ok (.istore_n 1, 1) := by decide +kernel
theorem dX1_wide_10 : decode cX1_wide 10 = .ok (.bipush 24, 2) := by decide +kernel
theorem dX1_wide_12 : decode cX1_wide 12 = .ok (.istore_n 2, 1) := by decide +kernel
theorem dX1_wide_13 : decode cX1_wide 13 = .ok (.iconst 1, 1) := by decide +kernel
theorem dX1_wide_14 : decode cX1_wide 14 = .ok (.istore_n 3, 1) := by decide +kernel
theorem dX1_wide_15 : decode cX1_wide 15 = .ok (.iload_n 3, 1) := by decide +kernel
theorem dX1_wide_16 : decode cX1_wide 16 = .ok (.aload_n 0, 1) := by decide +kernel
theorem dX1_wide_17 : decode cX1_wide 17 = .ok (.getfield 38, 3) := by decide +kernel
theorem dX1_wide_20 : decode cX1_wide 20 = .ok (.if_icmp .gt 31, 3) := by decide +kernel
theorem dX1_wide_23 : decode cX1_wide 23 = .ok (.iload_n 1, 1) := by decide +kernel
theorem dX1_wide_24 : decode cX1_wide 24 = .ok (.aload_n 0, 1) := by decide +kernel
theorem dX1_wide_25 : decode cX1_wide 25 = .ok (.getfield 26, 3) := by decide +kernel
theorem dX1_wide_28 : decode cX1_wide 28 = .ok (.iload_n 3, 1) := by decide +kernel
theorem dX1_wide_29 : decode cX1_wide 29 = .ok (.iaload, 1) := by decide +kernel
theorem dX1_wide_30 : decode cX1_wide 30 = .ok (.invokestatic 60, 3) := by decide +kernel
theorem dX1_wide_33 : decode cX1_wide 33 = .ok (.istore_n 1, 1) := by decide +kernel
theorem dX1_wide_34 : decode cX1_wide 34 = .ok (.iload_n 2, 1) := by decide +kernel
theorem dX1_wide_35 : decode cX1_wide 35 = .ok (.aload_n 0, 1) := by decide +kernel
theorem dX1_wide_36 : decode cX1_wide 36 = .ok (.getfield 26, 3) := by decide +kernel
theorem dX1_wide_39 : decode cX1_wide 39 = .ok (.iload_n 3, 1) := by decide +kernel
theorem dX1_wide_40 : decode cX1_wide 40 = .ok (.iaload, 1) := by decide +kernel
theorem dX1_wide_41 : decode cX1_wide 41 = .ok (.invokestatic 144, 3) := by decide +kernel
theorem dX1_wide_44 : decode cX1_wide 44 = .ok (.istore_n 2, 1) := by decide +kernel
theorem dX1_wide_45 : decode cX1_wide 45 = .ok (.iinc 3 1, 3) := by decide +kernel
theorem dX1_wide_48 : decode cX1_wide 48 = .ok (.goto (-33), 3) := by decide +kernel
theorem dX1_wide_51 : decode cX1_wide 51 = .ok (.aload_n 0, 1) := by decide +kernel
theorem dX1_wide_52 : decode cX1_wide 52 = .ok (.getfield 38, 3) := by decide +kernel
theorem dX1_wide_55 : decode cX1_wide 55 = .ok (.ifCond .ne 7, 3) := by decide +kernel
theorem dX1_wide_58 : decode cX1_wide 58 = .ok (.iconst 0, 1) := by decide +kernel
theorem dX1_wide_59 : decode cX1_wide 59 = .ok (.goto 6, 3) := by decide +kernel
theorem dX1_wide_62 : decode cX1_wide 62 = .ok (.iload_n 1, 1) := by decide +kernel
theorem dX1_wide_63 : decode cX1_wide 63 = .ok (.iload_n 2, 1) := by decide +kernel
theorem dX1_wide_64 : decode cX1_wide 64 = .ok (.isub, 1) := by decide +kernel
theorem dX1_wide_65 : decode cX1_wide 65 = .ok (.ireturn, 1) := by decide +kernel
theorem dX1_range_0 : decode cX1_range 0 = .ok (.aload_n 0, 1) := by decide +kernel
theorem dX1_range_1 : decode cX1_range 1 = .ok (.aload_n 0, 1) := by decide +kernel
theorem dX1_range_2 : decode cX1_range 2 = .ok (.invokevirtual 146, 3) := by decide +kernel
theorem dX1_range_5 : decode cX1_range 5 = .ok (.invokevirtual 118, 3) := by decide +kernel
theorem dX1_range_8 : decode cX1_range 8 = .ok (.ireturn, 1) := by decide +kernel
theorem dX1_sungWith_0 : decode cX1_sungWith 0 = .ok (.aload_n 0, 1) := by decide +kernel
theorem dX1_sungWith_1 : decode cX1_sungWith 1 = .ok (.iconst 0, 1) := by decide +kernel
theorem dX1_sungWith_2 : decode cX1_sungWith 2 = .ok (.putfield 35, 3) := by decide +kernel
theorem dX1_sungWith_5 : decode cX1_sungWith 5 = .ok (.iload_n 1, 1) := by decide +kernel
theorem dX1_sungWith_6 : decode cX1_sungWith 6 = .ok (.invokestatic 109, 3) := by decide +kernel
theorem dX1_sungWith_9 : decode cX1_sungWith 9 = .ok (.ifCond .ne 9, 3) := by decide +kernel
theorem dX1_sungWith_12 : decode cX1_sungWith 12 = .ok (.aload_n 0, 1) := by decide +kernel
theorem dX1_sungWith_13 : decode cX1_sungWith 13 = .ok (.iconst 1, 1) := by decide +kernel
theorem dX1_sungWith_14 : decode cX1_sungWith 14 = .ok (.invokevirtual 112, 3) := by decide +kernel
theorem dX1_sungWith_17 : decode cX1_sungWith 17 = .ok (.ireturn, 1) := by decide +kernel
theorem dX1_sungWith_18 : decode cX1_sungWith 18 = .ok (.iconst 0, 1) := by decide +kernel
theorem dX1_sungWith_19 : decode cX1_sungWith 19 = .ok (.istore_n 2, 1) := by decide +kernel
theorem dX1_sungWith_20 : decode cX1_sungWith 20 = .ok (.iconst 0, 1) := by decide +kernel
theorem dX1_sungWith_21 : decode cX1_sungWith 21 = .ok (.istore_n 3, 1) := by decide +kernel
theorem dX1_sungWith_22 : decode cX1_sungWith 22 = .ok (.iload_n 3, 1) := by decide +kernel
theorem dX1_sungWith_23 : decode cX1_sungWith 23 = .ok (.aload_n 0, 1) := by decide +kernel
theorem dX1_sungWith_24 : decode cX1_sungWith 24 = .ok (.getfield 38, 3) := by decide +kernel
theorem dX1_sungWith_27 : decode cX1_sungWith 27 = .ok (.if_icmp .ge 32, 3) := by decide +kernel
theorem dX1_sungWith_30 : decode cX1_sungWith 30 = .ok (.iload_n 2, 1) := by decide +kernel
theorem dX1_sungWith_31 : decode cX1_sungWith 31 = .ok (.aload_n 0, 1) := by decide +kernel
theorem dX1_sungWith_32 : decode cX1_sungWith 32 = .ok (.getfield 23, 3) := by decide +kernel
theorem dX1_sungWith_35 : decode cX1_sungWith 35 = .ok (.aload_n 0, 1) := by decide +kernel
theorem dX1_sungWith_36 : decode cX1_sungWith 36 = .ok (.getfield 20, 3) := by decide +kernel
theorem dX1_sungWith_39 : decode cX1_sungWith 39 = .ok (.iload_n 3, 1) := by decide +kernel
theorem dX1_sungWith_40 : decode cX1_sungWith 40 = .ok (.iaload, 1) := by decide +kernel
theorem dX1_sungWith_41 : decode cX1_sungWith 41 = .ok (.iaload, 1) := by decide +kernel
theorem dX1_sungWith_42 : decode cX1_sungWith 42 = .ok (.iload_n 1, 1) := by decide +kernel
theorem dX1_sungWith_43 : decode cX1_sungWith 43 = .ok (.if_icmp .ne 7, 3) := by decide +kernel
theorem dX1_sungWith_46 : decode cX1_sungWith 46 = .ok (.iconst 1, 1) := by decide +kernel
theorem dX1_sungWith_47 : decode cX1_sungWith 47 = .ok (.goto 4, 3) := by decide +kernel
theorem dX1_sungWith_50 : decode cX1_sungWith 50 = .ok (.iconst 0, 1) := by decide +kernel
theorem dX1_sungWith_51 : decode cX1_sungWith 51 = .ok (.iadd, 1) := by decide +kernel
theorem dX1_sungWith_52 : decode cX1_sungWith 52 = .ok (.istore_n 2, 1) := by decide +kernel
theorem dX1_sungWith_53 : decode cX1_sungWith 53 = .ok (.iinc 3 1, 3) := by decide +kernel
theorem dX1_sungWith_56 : decode cX1_sungWith 56 = .ok (.goto (-34), 3) := by decide +kernel
theorem dX1_sungWith_59 : decode cX1_sungWith 59 = .ok (.iload_n 2, 1) := by decide +kernel
theorem dX1_sungWith_60 : decode cX1_sungWith 60 = .ok (.ireturn, 1) := by decide +kernel
theorem dX1_readings_0 : decode cX1_readings 0 = .ok (.aload_n 0, 1) := by decide +kernel
theorem dX1_readings_1 : decode cX1_readings 1 = .ok (.iconst 0, 1) := by decide +kernel
theorem dX1_readings_2 : decode cX1_readings 2 = .ok (.putfield 35, 3) := by decide +kernel
theorem dX1_readings_5 : decode cX1_readings 5 = .ok (.aload_n 0, 1) := by decide +kernel
theorem dX1_readings_6 : decode cX1_readings 6 = .ok (.iload_n 1, 1) := by decide +kernel
theorem dX1_readings_7 : decode cX1_readings 7 = .ok (.invokevirtual 115, 3) := by decide +kernel
theorem dX1_readings_10 : decode cX1_readings 10 = .ok (.ifCond .eq 11, 3) := by decide +kernel
theorem dX1_readings_13 : decode cX1_readings 13 = .ok (.aload_n 0, 1) := by decide +kernel
theorem dX1_readings_14 : decode cX1_readings 14 = .ok (.iload_n 1, 1) := by decide +kernel
theorem dX1_readings_15 : decode cX1_readings 15 = .ok (.invokevirtual 91, 3) := by decide +kernel
theorem dX1_readings_18 : decode cX1_readings 18 = .ok (.goto 8, 3) := by decide +kernel
theorem dX1_readings_21 : decode cX1_readings 21 = .ok (.aload_n 0, 1) := by decide +kernel
theorem dX1_readings_22 : decode cX1_readings 22 = .ok (.iconst 1, 1) := by decide +kernel
theorem dX1_readings_23 : decode cX1_readings 23 = .ok (.invokevirtual 112, 3) := by decide +kernel
theorem dX1_readings_26 : decode cX1_readings 26 = .ok (.ireturn, 1) := by decide +kernel
theorem dX1_rightReading_0 : decode cX1_rightReading 0 = .ok (.aload_n 0, 1) := by decide +kernel
theorem dX1_rightReading_1 : decode cX1_rightReading 1 = .ok (.iconst 0, 1) := by decide +kernel
theorem dX1_rightReading_2 : decode cX1_rightReading 2 = .ok (.putfield 35, 3) := by decide +kernel
theorem dX1_rightReading_5 : decode cX1_rightReading 5 = .ok (.aload_n 0, 1) := by decide +kernel
theorem dX1_rightReading_6 : decode cX1_rightReading 6 = .ok (.iload_n 1, 1) := by decide +kernel
theorem dX1_rightReading_7 : decode cX1_rightReading 7 = .ok (.invokevirtual 115, 3) := by decide +kernel
theorem dX1_rightReading_10 : decode cX1_rightReading 10 = .ok (.ifCond .eq 11, 3) := by decide +kernel
theorem dX1_rightReading_13 : decode cX1_rightReading 13 = .ok (.aload_n 0, 1) := by decide +kernel
theorem dX1_rightReading_14 : decode cX1_rightReading 14 = .ok (.iload_n 1, 1) := by decide +kernel
theorem dX1_rightReading_15 : decode cX1_rightReading 15 = .ok (.invokevirtual 149, 3) := by decide +kernel
theorem dX1_rightReading_18 : decode cX1_rightReading 18 = .ok (.goto 8, 3) := by decide +kernel
theorem dX1_rightReading_21 : decode cX1_rightReading 21 = .ok (.aload_n 0, 1) := by decide +kernel
theorem dX1_rightReading_22 : decode cX1_rightReading 22 = .ok (.iconst 1, 1) := by decide +kernel
theorem dX1_rightReading_23 : decode cX1_rightReading 23 = .ok (.invokevirtual 112, 3) := by decide +kernel
theorem dX1_rightReading_26 : decode cX1_rightReading 26 = .ok (.ireturn, 1) := by decide +kernel
theorem dX1_isAmbiguous_0 : decode cX1_isAmbiguous 0 = .ok (.aload_n 0, 1) := by decide +kernel
theorem dX1_isAmbiguous_1 : decode cX1_isAmbiguous 1 = .ok (.iconst 0, 1) := by decide +kernel
theorem dX1_isAmbiguous_2 : decode cX1_isAmbiguous 2 = .ok (.putfield 35, 3) := by decide +kernel
theorem dX1_isAmbiguous_5 : decode cX1_isAmbiguous 5 = .ok (.aload_n 0, 1) := by decide +kernel
theorem dX1_isAmbiguous_6 : decode cX1_isAmbiguous 6 = .ok (.iload_n 1, 1) := by decide +kernel
theorem dX1_isAmbiguous_7 : decode cX1_isAmbiguous 7 = .ok (.invokevirtual 115, 3) := by decide +kernel
theorem dX1_isAmbiguous_10 : decode cX1_isAmbiguous 10 = .ok (.ifCond .eq 11, 3) := by decide +kernel
theorem dX1_isAmbiguous_13 : decode cX1_isAmbiguous 13 = .ok (.aload_n 0, 1) := by decide +kernel
theorem dX1_isAmbiguous_14 : decode cX1_isAmbiguous 14 = .ok (.iload_n 1, 1) := by decide +kernel
theorem dX1_isAmbiguous_15 : decode cX1_isAmbiguous 15 = .ok (.invokevirtual 94, 3) := by decide +kernel
theorem dX1_isAmbiguous_18 : decode cX1_isAmbiguous 18 = .ok (.goto 8, 3) := by decide +kernel
theorem dX1_isAmbiguous_21 : decode cX1_isAmbiguous 21 = .ok (.aload_n 0, 1) := by decide +kernel
theorem dX1_isAmbiguous_22 : decode cX1_isAmbiguous 22 = .ok (.iconst 1, 1) := by decide +kernel
theorem dX1_isAmbiguous_23 : decode cX1_isAmbiguous 23 = .ok (.invokevirtual 135, 3) := by decide +kernel
theorem dX1_isAmbiguous_26 : decode cX1_isAmbiguous 26 = .ok (.ireturn, 1) := by decide +kernel
theorem dX1_isMended_0 : decode cX1_isMended 0 = .ok (.aload_n 0, 1) := by decide +kernel
theorem dX1_isMended_1 : decode cX1_isMended 1 = .ok (.iconst 0, 1) := by decide +kernel
theorem dX1_isMended_2 : decode cX1_isMended 2 = .ok (.putfield 35, 3) := by decide +kernel
theorem dX1_isMended_5 : decode cX1_isMended 5 = .ok (.aload_n 0, 1) := by decide +kernel
theorem dX1_isMended_6 : decode cX1_isMended 6 = .ok (.iload_n 1, 1) := by decide +kernel
theorem dX1_isMended_7 : decode cX1_isMended 7 = .ok (.invokevirtual 115, 3) := by decide +kernel
theorem dX1_isMended_10 : decode cX1_isMended 10 = .ok (.ifCond .eq 11, 3) := by decide +kernel
theorem dX1_isMended_13 : decode cX1_isMended 13 = .ok (.aload_n 0, 1) := by decide +kernel
theorem dX1_isMended_14 : decode cX1_isMended 14 = .ok (.iload_n 1, 1) := by decide +kernel
theorem dX1_isMended_15 : decode cX1_isMended 15 = .ok (.invokevirtual 88, 3) := by decide +kernel
theorem dX1_isMended_18 : decode cX1_isMended 18 = .ok (.goto 8, 3) := by decide +kernel
theorem dX1_isMended_21 : decode cX1_isMended 21 = .ok (.aload_n 0, 1) := by decide +kernel
theorem dX1_isMended_22 : decode cX1_isMended 22 = .ok (.iconst 1, 1) := by decide +kernel
theorem dX1_isMended_23 : decode cX1_isMended 23 = .ok (.invokevirtual 135, 3) := by decide +kernel
theorem dX1_isMended_26 : decode cX1_isMended 26 = .ok (.ireturn, 1) := by decide +kernel
theorem dX1_mend_0 : decode cX1_mend 0 = .ok (.aload_n 0, 1) := by decide +kernel
theorem dX1_mend_1 : decode cX1_mend 1 = .ok (.iconst 0, 1) := by decide +kernel
theorem dX1_mend_2 : decode cX1_mend 2 = .ok (.putfield 35, 3) := by decide +kernel
theorem dX1_mend_5 : decode cX1_mend 5 = .ok (.aload_n 0, 1) := by decide +kernel
theorem dX1_mend_6 : decode cX1_mend 6 = .ok (.iload_n 1, 1) := by decide +kernel
theorem dX1_mend_7 : decode cX1_mend 7 = .ok (.invokevirtual 115, 3) := by decide +kernel
theorem dX1_mend_10 : decode cX1_mend 10 = .ok (.ifCond .ne 9, 3) := by decide +kernel
theorem dX1_mend_13 : decode cX1_mend 13 = .ok (.aload_n 0, 1) := by decide +kernel
theorem dX1_mend_14 : decode cX1_mend 14 = .ok (.iconst 1, 1) := by decide +kernel
theorem dX1_mend_15 : decode cX1_mend 15 = .ok (.invokevirtual 112, 3) := by decide +kernel
theorem dX1_mend_18 : decode cX1_mend 18 = .ok (.ireturn, 1) := by decide +kernel
theorem dX1_mend_19 : decode cX1_mend 19 = .ok (.aload_n 0, 1) := by decide +kernel
theorem dX1_mend_20 : decode cX1_mend 20 = .ok (.iload_n 1, 1) := by decide +kernel
theorem dX1_mend_21 : decode cX1_mend 21 = .ok (.invokevirtual 94, 3) := by decide +kernel
theorem dX1_mend_24 : decode cX1_mend 24 = .ok (.ifCond .ne 9, 3) := by decide +kernel
theorem dX1_mend_27 : decode cX1_mend 27 = .ok (.aload_n 0, 1) := by decide +kernel
theorem dX1_mend_28 : decode cX1_mend 28 = .ok (.iconst 2, 1) := by decide +kernel
theorem dX1_mend_29 : decode cX1_mend 29 = .ok (.invokevirtual 112, 3) := by decide +kernel
theorem dX1_mend_32 : decode cX1_mend 32 = .ok (.ireturn, 1) := by decide +kernel
theorem dX1_mend_33 : decode cX1_mend 33 = .ok (.aload_n 0, 1) := by decide +kernel
theorem dX1_mend_34 : decode cX1_mend 34 = .ok (.dup, 1) := by decide +kernel
theorem dX1_mend_35 : decode cX1_mend 35 = .ok (.getfield 85, 3) := by decide +kernel
theorem dX1_mend_38 : decode cX1_mend 38 = .ok (.iconst 1, 1) := by decide +kernel
theorem dX1_mend_39 : decode cX1_mend 39 = .ok (.iload_n 1, 1) := by decide +kernel
theorem dX1_mend_40 : decode cX1_mend 40 = .ok (.ishl, 1) := by decide +kernel
theorem dX1_mend_41 : decode cX1_mend 41 = .ok (.ior, 1) := by decide +kernel
theorem dX1_mend_42 : decode cX1_mend 42 = .ok (.putfield 85, 3) := by decide +kernel
theorem dX1_mend_45 : decode cX1_mend 45 = .ok (.aload_n 0, 1) := by decide +kernel
theorem dX1_mend_46 : decode cX1_mend 46 = .ok (.iload_n 1, 1) := by decide +kernel
theorem dX1_mend_47 : decode cX1_mend 47 = .ok (.invokevirtual 149, 3) := by decide +kernel
theorem dX1_mend_50 : decode cX1_mend 50 = .ok (.ireturn, 1) := by decide +kernel
theorem dX1_mendTo_0 : decode cX1_mendTo 0 = .ok (.aload_n 0, 1) := by decide +kernel
theorem dX1_mendTo_1 : decode cX1_mendTo 1 = .ok (.iconst 0, 1) := by decide +kernel
theorem dX1_mendTo_2 : decode cX1_mendTo 2 = .ok (.putfield 35, 3) := by decide +kernel
theorem dX1_mendTo_5 : decode cX1_mendTo 5 = .ok (.iload_n 1, 1) := by decide +kernel
theorem dX1_mendTo_6 : decode cX1_mendTo 6 = .ok (.iconst 1, 1) := by decide +kernel
theorem dX1_mendTo_7 : decode cX1_mendTo 7 = .ok (.ldc 152, 2) := by decide +kernel
theorem dX1_mendTo_9 : decode cX1_mendTo 9 = .ok (.invokestatic 41, 3) := by decide +kernel
theorem dX1_mendTo_12 : decode cX1_mendTo 12 = .ok (.ifCond .ne 9, 3) := by decide +kernel
theorem dX1_mendTo_15 : decode cX1_mendTo 15 = .ok (.aload_n 0, 1) := by decide +kernel
theorem dX1_mendTo_16 : decode cX1_mendTo 16 = .ok (.iconst 1, 1) := by decide +kernel
theorem dX1_mendTo_17 : decode cX1_mendTo 17 = .ok (.invokevirtual 112, 3) := by decide +kernel
theorem dX1_mendTo_20 : decode cX1_mendTo 20 = .ok (.ireturn, 1) := by decide +kernel
theorem dX1_mendTo_21 : decode cX1_mendTo 21 = .ok (.iconst 0, 1) := by decide +kernel
theorem dX1_mendTo_22 : decode cX1_mendTo 22 = .ok (.istore_n 2, 1) := by decide +kernel
theorem dX1_mendTo_23 : decode cX1_mendTo 23 = .ok (.aload_n 0, 1) := by decide +kernel
theorem dX1_mendTo_24 : decode cX1_mendTo 24 = .ok (.invokevirtual 153, 3) := by decide +kernel
theorem dX1_mendTo_27 : decode cX1_mendTo 27 = .ok (.iload_n 1, 1) := by decide +kernel
theorem dX1_mendTo_28 : decode cX1_mendTo 28 = .ok (.i2l, 1) := by decide +kernel
theorem dX1_mendTo_29 : decode cX1_mendTo 29 = .ok (.lcmp, 1) := by decide +kernel
theorem dX1_mendTo_30 : decode cX1_mendTo 30 = .ok (.ifCond .le 72, 3) := by decide +kernel
theorem dX1_mendTo_33 : decode cX1_mendTo 33 = .ok (.iconst (-1), 1) := by decide +kernel
theorem dX1_mendTo_34 : decode cX1_mendTo 34 = .ok (.istore_n 3, 1) := by decide +kernel
theorem dX1_mendTo_35 : decode cX1_mendTo 35 = .ok (.iconst 0, 1) := by decide +kernel
theorem dX1_mendTo_36 : decode cX1_mendTo 36 = .ok (.istore 4, 2) := by decide +kernel
theorem dX1_mendTo_38 : decode cX1_mendTo 38 = .ok (.iload 4, 2) := by decide +kernel
theorem dX1_mendTo_40 : decode cX1_mendTo 40 = .ok (.aload_n 0, 1) := by decide +kernel
theorem dX1_mendTo_41 : decode cX1_mendTo 41 = .ok (.getfield 38, 3) := by decide +kernel
theorem dX1_mendTo_44 : decode cX1_mendTo 44 = .ok (.if_icmp .ge 40, 3) := by decide +kernel
theorem dX1_mendTo_47 : decode cX1_mendTo 47 = .ok (.aload_n 0, 1) := by decide +kernel
theorem dX1_mendTo_48 : decode cX1_mendTo 48 = .ok (.iload 4, 2) := by decide +kernel
theorem dX1_mendTo_50 : decode cX1_mendTo 50 = .ok (.invokevirtual 94, 3) := by decide +kernel
theorem dX1_mendTo_53 : decode cX1_mendTo 53 = .ok (.ifCond .eq 25, 3) := by decide +kernel
theorem dX1_mendTo_56 : decode cX1_mendTo 56 = .ok (.iload_n 3, 1) := by decide +kernel
theorem dX1_mendTo_57 : decode cX1_mendTo 57 = .ok (.iconst (-1), 1) := by decide +kernel
theorem dX1_mendTo_58 : decode cX1_mendTo 58 = .ok (.if_icmp .eq 17, 3) := by decide +kernel
theorem dX1_mendTo_61 : decode cX1_mendTo 61 = .ok (.aload_n 0, 1) := by decide +kernel
theorem dX1_mendTo_62 : decode cX1_mendTo 62 = .ok (.iload 4, 2) := by decide +kernel
theorem dX1_mendTo_64 : decode cX1_mendTo 64 = .ok (.invokevirtual 91, 3) := by decide +kernel
theorem dX1_mendTo_67 : decode cX1_mendTo 67 = .ok (.aload_n 0, 1) := by decide +kernel
theorem dX1_mendTo_68 : decode cX1_mendTo 68 = .ok (.iload_n 3, 1) := by decide +kernel
theorem dX1_mendTo_69 : decode cX1_mendTo 69 = .ok (.invokevirtual 91, 3) := by decide +kernel
theorem dX1_mendTo_72 : decode cX1_mendTo 72 = .ok (.if_icmp .le 6, 3) := by decide +kernel
theorem dX1_mendTo_75 : decode cX1_mendTo 75 = .ok (.iload 4, 2) := by decide +kernel
theorem dX1_mendTo_77 : decode cX1_mendTo 77 = .ok (.istore_n 3, 1) := by decide +kernel
theorem dX1_mendTo_78 : decode cX1_mendTo 78 = .ok (.iinc 4 1, 3) := by decide +kernel
theorem dX1_mendTo_81 : decode cX1_mendTo 81 = .ok (.goto (-43), 3) := by decide +kernel
theorem dX1_mendTo_84 : decode cX1_mendTo 84 = .ok (.aload_n 0, 1) := by decide +kernel
theorem dX1_mendTo_85 : decode cX1_mendTo 85 = .ok (.dup, 1) := by decide +kernel
theorem dX1_mendTo_86 : decode cX1_mendTo 86 = .ok (.getfield 85, 3) := by decide +kernel
theorem dX1_mendTo_89 : decode cX1_mendTo 89 = .ok (.iconst 1, 1) := by decide +kernel
theorem dX1_mendTo_90 : decode cX1_mendTo 90 = .ok (.iload_n 3, 1) := by decide +kernel
theorem dX1_mendTo_91 : decode cX1_mendTo 91 = .ok (.ishl, 1) := by decide +kernel
theorem dX1_mendTo_92 : decode cX1_mendTo 92 = .ok (.ior, 1) := by decide +kernel
theorem dX1_mendTo_93 : decode cX1_mendTo 93 = .ok (.putfield 85, 3) := by decide +kernel
theorem dX1_mendTo_96 : decode cX1_mendTo 96 = .ok (.iinc 2 1, 3) := by decide +kernel
theorem dX1_mendTo_99 : decode cX1_mendTo 99 = .ok (.goto (-76), 3) := by decide +kernel
theorem dX1_mendTo_102 : decode cX1_mendTo 102 = .ok (.iload_n 2, 1) := by decide +kernel
theorem dX1_mendTo_103 : decode cX1_mendTo 103 = .ok (.ireturn, 1) := by decide +kernel
theorem dX1_ambiguous_0 : decode cX1_ambiguous 0 = .ok (.aload_n 0, 1) := by decide +kernel
theorem dX1_ambiguous_1 : decode cX1_ambiguous 1 = .ok (.aload_n 0, 1) := by decide +kernel
theorem dX1_ambiguous_2 : decode cX1_ambiguous 2 = .ok (.invokevirtual 157, 3) := by decide +kernel
theorem dX1_ambiguous_5 : decode cX1_ambiguous 5 = .ok (.invokevirtual 118, 3) := by decide +kernel
theorem dX1_ambiguous_8 : decode cX1_ambiguous 8 = .ok (.ireturn, 1) := by decide +kernel
theorem dX1_ways_0 : decode cX1_ways 0 = .ok (.aload_n 0, 1) := by decide +kernel
theorem dX1_ways_1 : decode cX1_ways 1 = .ok (.iconst 0, 1) := by decide +kernel
theorem dX1_ways_2 : decode cX1_ways 2 = .ok (.putfield 35, 3) := by decide +kernel
theorem dX1_ways_5 : decode cX1_ways 5 = .ok (.aload_n 0, 1) := by decide +kernel
theorem dX1_ways_6 : decode cX1_ways 6 = .ok (.invokevirtual 153, 3) := by decide +kernel
theorem dX1_ways_9 : decode cX1_ways 9 = .ok (.lreturn, 1) := by decide +kernel
theorem dX1_firstOpen_0 : decode cX1_firstOpen 0 = .ok (.iconst 0, 1) := by decide +kernel
theorem dX1_firstOpen_1 : decode cX1_firstOpen 1 = .ok (.istore_n 1, 1) := by decide +kernel
theorem dX1_firstOpen_2 : decode cX1_firstOpen 2 = .ok (.iload_n 1, 1) := by decide +kernel
theorem dX1_firstOpen_3 : decode cX1_firstOpen 3 = .ok (.aload_n 0, 1) := by decide +kernel
theorem dX1_firstOpen_4 : decode cX1_firstOpen 4 = .ok (.getfield 38, 3) := by decide +kernel
theorem dX1_firstOpen_7 : decode cX1_firstOpen 7 = .ok (.if_icmp .ge 19, 3) := by decide +kernel
theorem dX1_firstOpen_10 : decode cX1_firstOpen 10 = .ok (.aload_n 0, 1) := by decide +kernel
theorem dX1_firstOpen_11 : decode cX1_firstOpen 11 = .ok (.iload_n 1, 1) := by decide +kernel
theorem dX1_firstOpen_12 : decode cX1_firstOpen 12 = .ok (.invokevirtual 94, 3) := by decide +kernel
theorem dX1_firstOpen_15 : decode cX1_firstOpen 15 = .ok (.ifCond .eq 5, 3) := by decide +kernel
theorem dX1_firstOpen_18 : decode cX1_firstOpen 18 = .ok (.iload_n 1, 1) := by decide +kernel
theorem dX1_firstOpen_19 : decode cX1_firstOpen 19 = .ok (.ireturn, 1) := by decide +kernel
theorem dX1_firstOpen_20 : decode cX1_firstOpen 20 = .ok (.iinc 1 1, 3) := by decide +kernel
theorem dX1_firstOpen_23 : decode cX1_firstOpen 23 = .ok (.goto (-21), 3) := by decide +kernel
theorem dX1_firstOpen_26 : decode cX1_firstOpen 26 = .ok (.iconst (-1), 1) := by decide +kernel
theorem dX1_firstOpen_27 : decode cX1_firstOpen 27 = .ok (.ireturn, 1) := by decide +kernel
theorem dX1_firstAmbiguous_0 : decode cX1_firstAmbiguous 0 = .ok (.aload_n 0, 1) := by decide +kernel
theorem dX1_firstAmbiguous_1 : decode cX1_firstAmbiguous 1 = .ok (.aload_n 0, 1) := by decide +kernel
theorem dX1_firstAmbiguous_2 : decode cX1_firstAmbiguous 2 = .ok (.invokevirtual 160, 3) := by decide +kernel
theorem dX1_firstAmbiguous_5 : decode cX1_firstAmbiguous 5 = .ok (.invokevirtual 118, 3) := by decide +kernel
theorem dX1_firstAmbiguous_8 : decode cX1_firstAmbiguous 8 = .ok (.ireturn, 1) := by decide +kernel
theorem dX1_ambiguousWith_0 : decode cX1_ambiguousWith 0 = .ok (.aload_n 0, 1) := by decide +kernel
theorem dX1_ambiguousWith_1 : decode cX1_ambiguousWith 1 = .ok (.iconst 0, 1) := by decide +kernel
theorem dX1_ambiguousWith_2 : decode cX1_ambiguousWith 2 = .ok (.putfield 35, 3) := by decide +kernel
theorem dX1_ambiguousWith_5 : decode cX1_ambiguousWith 5 = .ok (.iload_n 1, 1) := by decide +kernel
theorem dX1_ambiguousWith_6 : decode cX1_ambiguousWith 6 = .ok (.invokestatic 109, 3) := by decide +kernel
theorem dX1_ambiguousWith_9 : decode cX1_ambiguousWith 9 = .ok (.ifCond .eq 19, 3) := by decide +kernel
theorem dX1_ambiguousWith_12 : decode cX1_ambiguousWith 12 = .ok (.iload_n 2, 1) := by decide +kernel
theorem dX1_ambiguousWith_13 : decode cX1_ambiguousWith 13 = .ok (.invokestatic 109, 3) := by decide +kernel
theorem dX1_ambiguousWith_16 : decode cX1_ambiguousWith 16 = .ok (.ifCond .eq 12, 3) := by decide +kernel
theorem dX1_ambiguousWith_19 : decode cX1_ambiguousWith 19 = .ok (.aload_n 0, 1) := by decide +kernel
theorem dX1_ambiguousWith_20 : decode cX1_ambiguousWith 20 = .ok (.iload_n 1, 1) := by decide +kernel
theorem dX1_ambiguousWith_21 : decode cX1_ambiguousWith 21 = .ok (.iload_n 2, 1) := by decide +kernel
theorem dX1_ambiguousWith_22 : decode cX1_ambiguousWith 22 = .ok (.invokevirtual 106, 3) := by decide +kernel
theorem dX1_ambiguousWith_25 : decode cX1_ambiguousWith 25 = .ok (.goto 8, 3) := by decide +kernel
theorem dX1_ambiguousWith_28 : decode cX1_ambiguousWith 28 = .ok (.aload_n 0, 1) := by decide +kernel
theorem dX1_ambiguousWith_29 : decode cX1_ambiguousWith 29 = .ok (.iconst 1, 1) := by decide +kernel
theorem dX1_ambiguousWith_30 : decode cX1_ambiguousWith 30 = .ok (.invokevirtual 112, 3) := by decide +kernel
theorem dX1_ambiguousWith_33 : decode cX1_ambiguousWith 33 = .ok (.ireturn, 1) := by decide +kernel
theorem dX1_bestWord_0 : decode cX1_bestWord 0 = .ok (.aload_n 0, 1) := by decide +kernel
theorem dX1_bestWord_1 : decode cX1_bestWord 1 = .ok (.iconst 0, 1) := by decide +kernel
theorem dX1_bestWord_2 : decode cX1_bestWord 2 = .ok (.putfield 35, 3) := by decide +kernel
theorem dX1_bestWord_5 : decode cX1_bestWord 5 = .ok (.iload_n 1, 1) := by decide +kernel
theorem dX1_bestWord_6 : decode cX1_bestWord 6 = .ok (.invokestatic 109, 3) := by decide +kernel
theorem dX1_bestWord_9 : decode cX1_bestWord 9 = .ok (.ifCond .eq 11, 3) := by decide +kernel
theorem dX1_bestWord_12 : decode cX1_bestWord 12 = .ok (.aload_n 0, 1) := by decide +kernel
theorem dX1_bestWord_13 : decode cX1_bestWord 13 = .ok (.iload_n 1, 1) := by decide +kernel
theorem dX1_bestWord_14 : decode cX1_bestWord 14 = .ok (.invokevirtual 163, 3) := by decide +kernel
theorem dX1_bestWord_17 : decode cX1_bestWord 17 = .ok (.goto 8, 3) := by decide +kernel
theorem dX1_bestWord_20 : decode cX1_bestWord 20 = .ok (.aload_n 0, 1) := by decide +kernel
theorem dX1_bestWord_21 : decode cX1_bestWord 21 = .ok (.iconst 1, 1) := by decide +kernel
theorem dX1_bestWord_22 : decode cX1_bestWord 22 = .ok (.invokevirtual 112, 3) := by decide +kernel
theorem dX1_bestWord_25 : decode cX1_bestWord 25 = .ok (.ireturn, 1) := by decide +kernel
theorem dX1_bestStep_0 : decode cX1_bestStep 0 = .ok (.aload_n 0, 1) := by decide +kernel
theorem dX1_bestStep_1 : decode cX1_bestStep 1 = .ok (.aload_n 0, 1) := by decide +kernel
theorem dX1_bestStep_2 : decode cX1_bestStep 2 = .ok (.invokevirtual 166, 3) := by decide +kernel
theorem dX1_bestStep_5 : decode cX1_bestStep 5 = .ok (.invokevirtual 118, 3) := by decide +kernel
theorem dX1_bestStep_8 : decode cX1_bestStep 8 = .ok (.ireturn, 1) := by decide +kernel
theorem dX1_meanNote_0 : decode cX1_meanNote 0 = .ok (.aload_n 0, 1) := by decide +kernel
theorem dX1_meanNote_1 : decode cX1_meanNote 1 = .ok (.iconst 0, 1) := by decide +kernel
theorem dX1_meanNote_2 : decode cX1_meanNote 2 = .ok (.putfield 35, 3) := by decide +kernel
theorem dX1_meanNote_5 : decode cX1_meanNote 5 = .ok (.aload_n 0, 1) := by decide +kernel
theorem dX1_meanNote_6 : decode cX1_meanNote 6 = .ok (.aload_n 0, 1) := by decide +kernel
theorem dX1_meanNote_7 : decode cX1_meanNote 7 = .ok (.getfield 7, 3) := by decide +kernel
theorem dX1_meanNote_10 : decode cX1_meanNote 10 = .ok (.invokevirtual 68, 3) := by decide +kernel
theorem dX1_meanNote_13 : decode cX1_meanNote 13 = .ok (.iconst 0, 1) := by decide +kernel
theorem dX1_meanNote_14 : decode cX1_meanNote 14 = .ok (.istore_n 1, 1) := by decide +kernel
theorem dX1_meanNote_15 : decode cX1_meanNote 15 = .ok (.iconst 1, 1) := by decide +kernel
theorem dX1_meanNote_16 : decode cX1_meanNote 16 = .ok (.istore_n 2, 1) := by decide +kernel
theorem dX1_meanNote_17 : decode cX1_meanNote 17 = .ok (.iload_n 2, 1) := by decide +kernel
theorem dX1_meanNote_18 : decode cX1_meanNote 18 = .ok (.aload_n 0, 1) := by decide +kernel
theorem dX1_meanNote_19 : decode cX1_meanNote 19 = .ok (.getfield 38, 3) := by decide +kernel
theorem dX1_meanNote_22 : decode cX1_meanNote 22 = .ok (.if_icmp .gt 18, 3) := by decide +kernel
theorem dX1_meanNote_25 : decode cX1_meanNote 25 = .ok (.iload_n 1, 1) := by decide +kernel
theorem dX1_meanNote_26 : decode cX1_meanNote 26 = .ok (.aload_n 0, 1) := by decide +kernel
theorem dX1_meanNote_27 : decode cX1_meanNote 27 = .ok (.getfield 26, 3) := by decide +kernel
theorem dX1_meanNote_30 : decode cX1_meanNote 30 = .ok (.iload_n 2, 1) := by decide +kernel
theorem dX1_meanNote_31 : decode cX1_meanNote 31 = .ok (.iaload, 1) := by decide +kernel
theorem dX1_meanNote_32 : decode cX1_meanNote 32 = .ok (.iadd, 1) := by decide +kernel
theorem dX1_meanNote_33 : decode cX1_meanNote 33 = .ok (.istore_n 1, 1) := by decide +kernel
theorem dX1_meanNote_34 : decode cX1_meanNote 34 = .ok (.iinc 2 1, 3) := by decide +kernel
theorem dX1_meanNote_37 : decode cX1_meanNote 37 = .ok (.goto (-20), 3) := by decide +kernel
theorem dX1_meanNote_40 : decode cX1_meanNote 40 = .ok (.aload_n 0, 1) := by decide +kernel
theorem dX1_meanNote_41 : decode cX1_meanNote 41 = .ok (.getfield 38, 3) := by decide +kernel
theorem dX1_meanNote_44 : decode cX1_meanNote 44 = .ok (.ifCond .ne 7, 3) := by decide +kernel
theorem dX1_meanNote_47 : decode cX1_meanNote 47 = .ok (.dconst 0, 1) := by decide +kernel
theorem dX1_meanNote_48 : decode cX1_meanNote 48 = .ok (.goto 11, 3) := by decide +kernel
theorem dX1_meanNote_51 : decode cX1_meanNote 51 = .ok (.iload_n 1, 1) := by decide +kernel
theorem dX1_meanNote_52 : decode cX1_meanNote 52 = .ok (.i2d, 1) := by decide +kernel
theorem dX1_meanNote_53 : decode cX1_meanNote 53 = .ok (.aload_n 0, 1) := by decide +kernel
theorem dX1_meanNote_54 : decode cX1_meanNote 54 = .ok (.getfield 38, 3) := by decide +kernel
theorem dX1_meanNote_57 : decode cX1_meanNote 57 = .ok (.i2d, 1) := by decide +kernel
theorem dX1_meanNote_58 : decode cX1_meanNote 58 = .ok (.ddiv, 1) := by decide +kernel
theorem dX1_meanNote_59 : decode cX1_meanNote 59 = .ok (.dreturn, 1) := by decide +kernel
theorem dX1_digest_0 : decode cX1_digest 0 = .ok (.aload_n 0, 1) := by decide +kernel
theorem dX1_digest_1 : decode cX1_digest 1 = .ok (.iconst 0, 1) := by decide +kernel
theorem dX1_digest_2 : decode cX1_digest 2 = .ok (.putfield 35, 3) := by decide +kernel
theorem dX1_digest_5 : decode cX1_digest 5 = .ok (.bipush 10, 2) := by decide +kernel
theorem dX1_digest_7 : decode cX1_digest 7 = .ok (.newarray .int, 2) := by decide +kernel
theorem dX1_digest_9 : decode cX1_digest 9 = .ok (.dup, 1) := by decide +kernel
theorem dX1_digest_10 : decode cX1_digest 10 = .ok (.iconst 0, 1) := by decide +kernel
theorem dX1_digest_11 : decode cX1_digest 11 = .ok (.aload_n 0, 1) := by decide +kernel
theorem dX1_digest_12 : decode cX1_digest 12 = .ok (.getfield 38, 3) := by decide +kernel
theorem dX1_digest_15 : decode cX1_digest 15 = .ok (.iastore, 1) := by decide +kernel
theorem dX1_digest_16 : decode cX1_digest 16 = .ok (.dup, 1) := by decide +kernel
theorem dX1_digest_17 : decode cX1_digest 17 = .ok (.iconst 1, 1) := by decide +kernel
theorem dX1_digest_18 : decode cX1_digest 18 = .ok (.aload_n 0, 1) := by decide +kernel
theorem dX1_digest_19 : decode cX1_digest 19 = .ok (.getfield 7, 3) := by decide +kernel
theorem dX1_digest_22 : decode cX1_digest 22 = .ok (.iastore, 1) := by decide +kernel
theorem dX1_digest_23 : decode cX1_digest 23 = .ok (.dup, 1) := by decide +kernel
theorem dX1_digest_24 : decode cX1_digest 24 = .ok (.iconst 2, 1) := by decide +kernel
theorem dX1_digest_25 : decode cX1_digest 25 = .ok (.aload_n 0, 1) := by decide +kernel
theorem dX1_digest_26 : decode cX1_digest 26 = .ok (.aload_n 0, 1) := by decide +kernel
theorem dX1_digest_27 : decode cX1_digest 27 = .ok (.getfield 29, 3) := by decide +kernel
theorem dX1_digest_30 : decode cX1_digest 30 = .ok (.invokevirtual 121, 3) := by decide +kernel
theorem dX1_digest_33 : decode cX1_digest 33 = .ok (.iastore, 1) := by decide +kernel
theorem dX1_digest_34 : decode cX1_digest 34 = .ok (.dup, 1) := by decide +kernel
theorem dX1_digest_35 : decode cX1_digest 35 = .ok (.iconst 3, 1) := by decide +kernel
theorem dX1_digest_36 : decode cX1_digest 36 = .ok (.aload_n 0, 1) := by decide +kernel
theorem dX1_digest_37 : decode cX1_digest 37 = .ok (.aload_n 0, 1) := by decide +kernel
theorem dX1_digest_38 : decode cX1_digest 38 = .ok (.getfield 32, 3) := by decide +kernel
theorem dX1_digest_41 : decode cX1_digest 41 = .ok (.invokevirtual 121, 3) := by decide +kernel
theorem dX1_digest_44 : decode cX1_digest 44 = .ok (.iastore, 1) := by decide +kernel
theorem dX1_digest_45 : decode cX1_digest 45 = .ok (.dup, 1) := by decide +kernel
theorem dX1_digest_46 : decode cX1_digest 46 = .ok (.iconst 4, 1) := by decide +kernel
theorem dX1_digest_47 : decode cX1_digest 47 = .ok (.aload_n 0, 1) := by decide +kernel
theorem dX1_digest_48 : decode cX1_digest 48 = .ok (.invokevirtual 125, 3) := by decide +kernel
theorem dX1_digest_51 : decode cX1_digest 51 = .ok (.iastore, 1) := by decide +kernel
theorem dX1_digest_52 : decode cX1_digest 52 = .ok (.dup, 1) := by decide +kernel
theorem dX1_digest_53 : decode cX1_digest 53 = .ok (.iconst 5, 1) := by decide +kernel
theorem dX1_digest_54 : decode cX1_digest 54 = .ok (.aload_n 0, 1) := by decide +kernel
theorem dX1_digest_55 : decode cX1_digest 55 = .ok (.invokevirtual 129, 3) := by decide +kernel
theorem dX1_digest_58 : decode cX1_digest 58 = .ok (.iastore, 1) := by decide +kernel
theorem dX1_digest_59 : decode cX1_digest 59 = .ok (.dup, 1) := by decide +kernel
theorem dX1_digest_60 : decode cX1_digest 60 = .ok (.bipush 6, 2) := by decide +kernel
theorem dX1_digest_62 : decode cX1_digest 62 = .ok (.aload_n 0, 1) := by decide +kernel
theorem dX1_digest_63 : decode cX1_digest 63 = .ok (.invokevirtual 138, 3) := by decide +kernel
theorem dX1_digest_66 : decode cX1_digest 66 = .ok (.iastore, 1) := by decide +kernel
theorem dX1_digest_67 : decode cX1_digest 67 = .ok (.dup, 1) := by decide +kernel
theorem dX1_digest_68 : decode cX1_digest 68 = .ok (.bipush 7, 2) := by decide +kernel
theorem dX1_digest_70 : decode cX1_digest 70 = .ok (.aload_n 0, 1) := by decide +kernel
theorem dX1_digest_71 : decode cX1_digest 71 = .ok (.invokevirtual 141, 3) := by decide +kernel
theorem dX1_digest_74 : decode cX1_digest 74 = .ok (.iastore, 1) := by decide +kernel
theorem dX1_digest_75 : decode cX1_digest 75 = .ok (.dup, 1) := by decide +kernel
theorem dX1_digest_76 : decode cX1_digest 76 = .ok (.bipush 8, 2) := by decide +kernel
theorem dX1_digest_78 : decode cX1_digest 78 = .ok (.aload_n 0, 1) := by decide +kernel
theorem dX1_digest_79 : decode cX1_digest 79 = .ok (.invokevirtual 146, 3) := by decide +kernel
theorem dX1_digest_82 : decode cX1_digest 82 = .ok (.iastore, 1) := by decide +kernel
theorem dX1_digest_83 : decode cX1_digest 83 = .ok (.dup, 1) := by decide +kernel
theorem dX1_digest_84 : decode cX1_digest 84 = .ok (.bipush 9, 2) := by decide +kernel
theorem dX1_digest_86 : decode cX1_digest 86 = .ok (.aload_n 0, 1) := by decide +kernel
theorem dX1_digest_87 : decode cX1_digest 87 = .ok (.invokevirtual 157, 3) := by decide +kernel
theorem dX1_digest_90 : decode cX1_digest 90 = .ok (.iastore, 1) := by decide +kernel
theorem dX1_digest_91 : decode cX1_digest 91 = .ok (.astore_n 1, 1) := by decide +kernel
theorem dX1_digest_92 : decode cX1_digest 92 = .ok (.ldc2_w 169, 3) := by decide +kernel
theorem dX1_digest_95 : decode cX1_digest 95 = .ok (.lstore_n 2, 1) := by decide +kernel
theorem dX1_digest_96 : decode cX1_digest 96 = .ok (.aload_n 1, 1) := by decide +kernel
theorem dX1_digest_97 : decode cX1_digest 97 = .ok (.astore 4, 2) := by decide +kernel
theorem dX1_digest_99 : decode cX1_digest 99 = .ok (.aload 4, 2) := by decide +kernel
theorem dX1_digest_101 : decode cX1_digest 101 = .ok (.arraylength, 1) := by decide +kernel
theorem dX1_digest_102 : decode cX1_digest 102 = .ok (.istore 5, 2) := by decide +kernel
theorem dX1_digest_104 : decode cX1_digest 104 = .ok (.iconst 0, 1) := by decide +kernel
theorem dX1_digest_105 : decode cX1_digest 105 = .ok (.istore 6, 2) := by decide +kernel
theorem dX1_digest_107 : decode cX1_digest 107 = .ok (.iload 6, 2) := by decide +kernel
theorem dX1_digest_109 : decode cX1_digest 109 = .ok (.iload 5, 2) := by decide +kernel
theorem dX1_digest_111 : decode cX1_digest 111 = .ok (.if_icmp .ge 26, 3) := by decide +kernel
theorem dX1_digest_114 : decode cX1_digest 114 = .ok (.aload 4, 2) := by decide +kernel
theorem dX1_digest_116 : decode cX1_digest 116 = .ok (.iload 6, 2) := by decide +kernel
theorem dX1_digest_118 : decode cX1_digest 118 = .ok (.iaload, 1) := by decide +kernel
theorem dX1_digest_119 : decode cX1_digest 119 = .ok (.istore 7, 2) := by decide +kernel
theorem dX1_digest_121 : decode cX1_digest 121 = .ok (.lload_n 2, 1) := by decide +kernel
theorem dX1_digest_122 : decode cX1_digest 122 = .ok (.ldc2_w 171, 3) := by decide +kernel
theorem dX1_digest_125 : decode cX1_digest 125 = .ok (.lmul, 1) := by decide +kernel
theorem dX1_digest_126 : decode cX1_digest 126 = .ok (.iload 7, 2) := by decide +kernel
theorem dX1_digest_128 : decode cX1_digest 128 = .ok (.i2l, 1) := by decide +kernel
theorem dX1_digest_129 : decode cX1_digest 129 = .ok (.ladd, 1) := by decide +kernel
theorem dX1_digest_130 : decode cX1_digest 130 = .ok (.lstore_n 2, 1) := by decide +kernel
theorem dX1_digest_131 : decode cX1_digest 131 = .ok (.iinc 6 1, 3) := by decide +kernel
theorem dX1_digest_134 : decode cX1_digest 134 = .ok (.goto (-27), 3) := by decide +kernel
theorem dX1_digest_137 : decode cX1_digest 137 = .ok (.lload_n 2, 1) := by decide +kernel
theorem dX1_digest_138 : decode cX1_digest 138 = .ok (.ldc2_w 171, 3) := by decide +kernel
theorem dX1_digest_141 : decode cX1_digest 141 = .ok (.lmul, 1) := by decide +kernel
theorem dX1_digest_142 : decode cX1_digest 142 = .ok (.aload_n 0, 1) := by decide +kernel
theorem dX1_digest_143 : decode cX1_digest 143 = .ok (.invokevirtual 153, 3) := by decide +kernel
theorem dX1_digest_146 : decode cX1_digest 146 = .ok (.ladd, 1) := by decide +kernel
theorem dX1_digest_147 : decode cX1_digest 147 = .ok (.ldc2_w 171, 3) := by decide +kernel
theorem dX1_digest_150 : decode cX1_digest 150 = .ok (.lmul, 1) := by decide +kernel
theorem dX1_digest_151 : decode cX1_digest 151 = .ok (.aload_n 0, 1) := by decide +kernel
theorem dX1_digest_152 : decode cX1_digest 152 = .ok (.invokevirtual 166, 3) := by decide +kernel
theorem dX1_digest_155 : decode cX1_digest 155 = .ok (.i2l, 1) := by decide +kernel
theorem dX1_digest_156 : decode cX1_digest 156 = .ok (.ladd, 1) := by decide +kernel
theorem dX1_digest_157 : decode cX1_digest 157 = .ok (.lstore_n 2, 1) := by decide +kernel
theorem dX1_digest_158 : decode cX1_digest 158 = .ok (.iconst 0, 1) := by decide +kernel
theorem dX1_digest_159 : decode cX1_digest 159 = .ok (.istore 4, 2) := by decide +kernel
theorem dX1_digest_161 : decode cX1_digest 161 = .ok (.iload 4, 2) := by decide +kernel
theorem dX1_digest_163 : decode cX1_digest 163 = .ok (.aload_n 0, 1) := by decide +kernel
theorem dX1_digest_164 : decode cX1_digest 164 = .ok (.getfield 38, 3) := by decide +kernel
theorem dX1_digest_167 : decode cX1_digest 167 = .ok (.if_icmp .ge 147, 3) := by decide +kernel
theorem dX1_digest_170 : decode cX1_digest 170 = .ok (.bipush 8, 2) := by decide +kernel
theorem dX1_digest_172 : decode cX1_digest 172 = .ok (.newarray .int, 2) := by decide +kernel
theorem dX1_digest_174 : decode cX1_digest 174 = .ok (.dup, 1) := by decide +kernel
theorem dX1_digest_175 : decode cX1_digest 175 = .ok (.iconst 0, 1) := by decide +kernel
theorem dX1_digest_176 : decode cX1_digest 176 = .ok (.aload_n 0, 1) := by decide +kernel
theorem dX1_digest_177 : decode cX1_digest 177 = .ok (.getfield 13, 3) := by decide +kernel
theorem dX1_digest_180 : decode cX1_digest 180 = .ok (.iload 4, 2) := by decide +kernel
theorem dX1_digest_182 : decode cX1_digest 182 = .ok (.iaload, 1) := by decide +kernel
theorem dX1_digest_183 : decode cX1_digest 183 = .ok (.iastore, 1) := by decide +kernel
theorem dX1_digest_184 : decode cX1_digest 184 = .ok (.dup, 1) := by decide +kernel
theorem dX1_digest_185 : decode cX1_digest 185 = .ok (.iconst 1, 1) := by decide +kernel
theorem dX1_digest_186 : decode cX1_digest 186 = .ok (.aload_n 0, 1) := by decide +kernel
theorem dX1_digest_187 : decode cX1_digest 187 = .ok (.iload 4, 2) := by decide +kernel
theorem dX1_digest_189 : decode cX1_digest 189 = .ok (.invokevirtual 48, 3) := by decide +kernel
theorem dX1_digest_192 : decode cX1_digest 192 = .ok (.iastore, 1) := by decide +kernel
theorem dX1_digest_193 : decode cX1_digest 193 = .ok (.dup, 1) := by decide +kernel
theorem dX1_digest_194 : decode cX1_digest 194 = .ok (.iconst 2, 1) := by decide +kernel
theorem dX1_digest_195 : decode cX1_digest 195 = .ok (.aload_n 0, 1) := by decide +kernel
theorem dX1_digest_196 : decode cX1_digest 196 = .ok (.getfield 20, 3) := by decide +kernel
theorem dX1_digest_199 : decode cX1_digest 199 = .ok (.iload 4, 2) := by decide +kernel
theorem dX1_digest_201 : decode cX1_digest 201 = .ok (.iaload, 1) := by decide +kernel
theorem dX1_digest_202 : decode cX1_digest 202 = .ok (.iastore, 1) := by decide +kernel
theorem dX1_digest_203 : decode cX1_digest 203 = .ok (.dup, 1) := by decide +kernel
theorem dX1_digest_204 : decode cX1_digest 204 = .ok (.iconst 3, 1) := by decide +kernel
theorem dX1_digest_205 : decode cX1_digest 205 = .ok (.aload_n 0, 1) := by decide +kernel
theorem dX1_digest_206 : decode cX1_digest 206 = .ok (.iload 4, 2) := by decide +kernel
theorem dX1_digest_208 : decode cX1_digest 208 = .ok (.invokevirtual 132, 3) := by decide +kernel
theorem dX1_digest_211 : decode cX1_digest 211 = .ok (.iastore, 1) := by decide +kernel
theorem dX1_digest_212 : decode cX1_digest 212 = .ok (.dup, 1) := by decide +kernel
theorem dX1_digest_213 : decode cX1_digest 213 = .ok (.iconst 4, 1) := by decide +kernel
theorem dX1_digest_214 : decode cX1_digest 214 = .ok (.aload_n 0, 1) := by decide +kernel
theorem dX1_digest_215 : decode cX1_digest 215 = .ok (.getfield 23, 3) := by decide +kernel
theorem dX1_digest_218 : decode cX1_digest 218 = .ok (.aload_n 0, 1) := by decide +kernel
theorem dX1_digest_219 : decode cX1_digest 219 = .ok (.getfield 20, 3) := by decide +kernel
theorem dX1_digest_222 : decode cX1_digest 222 = .ok (.iload 4, 2) := by decide +kernel
theorem dX1_digest_224 : decode cX1_digest 224 = .ok (.iaload, 1) := by decide +kernel
theorem dX1_digest_225 : decode cX1_digest 225 = .ok (.iaload, 1) := by decide +kernel
theorem dX1_digest_226 : decode cX1_digest 226 = .ok (.iastore, 1) := by decide +kernel
theorem dX1_digest_227 : decode cX1_digest 227 = .ok (.dup, 1) := by decide +kernel
theorem dX1_digest_228 : decode cX1_digest 228 = .ok (.iconst 5, 1) := by decide +kernel
theorem dX1_digest_229 : decode cX1_digest 229 = .ok (.aload_n 0, 1) := by decide +kernel
theorem dX1_digest_230 : decode cX1_digest 230 = .ok (.iload 4, 2) := by decide +kernel
theorem dX1_digest_232 : decode cX1_digest 232 = .ok (.invokevirtual 91, 3) := by decide +kernel
theorem dX1_digest_235 : decode cX1_digest 235 = .ok (.iastore, 1) := by decide +kernel
theorem dX1_digest_236 : decode cX1_digest 236 = .ok (.dup, 1) := by decide +kernel
theorem dX1_digest_237 : decode cX1_digest 237 = .ok (.bipush 6, 2) := by decide +kernel
theorem dX1_digest_239 : decode cX1_digest 239 = .ok (.aload_n 0, 1) := by decide +kernel
theorem dX1_digest_240 : decode cX1_digest 240 = .ok (.iload 4, 2) := by decide +kernel
theorem dX1_digest_242 : decode cX1_digest 242 = .ok (.invokevirtual 149, 3) := by decide +kernel
theorem dX1_digest_245 : decode cX1_digest 245 = .ok (.iastore, 1) := by decide +kernel
theorem dX1_digest_246 : decode cX1_digest 246 = .ok (.dup, 1) := by decide +kernel
theorem dX1_digest_247 : decode cX1_digest 247 = .ok (.bipush 7, 2) := by decide +kernel
theorem dX1_digest_249 : decode cX1_digest 249 = .ok (.aload_n 0, 1) := by decide +kernel
theorem dX1_digest_250 : decode cX1_digest 250 = .ok (.iload 4, 2) := by decide +kernel
theorem dX1_digest_252 : decode cX1_digest 252 = .ok (.invokevirtual 88, 3) := by decide +kernel
theorem dX1_digest_255 : decode cX1_digest 255 = .ok (.ifCond .eq 7, 3) := by decide +kernel
theorem dX1_digest_258 : decode cX1_digest 258 = .ok (.iconst 1, 1) := by decide +kernel
theorem dX1_digest_259 : decode cX1_digest 259 = .ok (.goto 4, 3) := by decide +kernel
theorem dX1_digest_262 : decode cX1_digest 262 = .ok (.iconst 0, 1) := by decide +kernel
theorem dX1_digest_263 : decode cX1_digest 263 = .ok (.iastore, 1) := by decide +kernel
theorem dX1_digest_264 : decode cX1_digest 264 = .ok (.astore 5, 2) := by decide +kernel
theorem dX1_digest_266 : decode cX1_digest 266 = .ok (.aload 5, 2) := by decide +kernel
theorem dX1_digest_268 : decode cX1_digest 268 = .ok (.astore 6, 2) := by decide +kernel
theorem dX1_digest_270 : decode cX1_digest 270 = .ok (.aload 6, 2) := by decide +kernel
theorem dX1_digest_272 : decode cX1_digest 272 = .ok (.arraylength, 1) := by decide +kernel
theorem dX1_digest_273 : decode cX1_digest 273 = .ok (.istore 7, 2) := by decide +kernel
theorem dX1_digest_275 : decode cX1_digest 275 = .ok (.iconst 0, 1) := by decide +kernel
theorem dX1_digest_276 : decode cX1_digest 276 = .ok (.istore 8, 2) := by decide +kernel
theorem dX1_digest_278 : decode cX1_digest 278 = .ok (.iload 8, 2) := by decide +kernel
theorem dX1_digest_280 : decode cX1_digest 280 = .ok (.iload 7, 2) := by decide +kernel
theorem dX1_digest_282 : decode cX1_digest 282 = .ok (.if_icmp .ge 26, 3) := by decide +kernel
theorem dX1_digest_285 : decode cX1_digest 285 = .ok (.aload 6, 2) := by decide +kernel
theorem dX1_digest_287 : decode cX1_digest 287 = .ok (.iload 8, 2) := by decide +kernel
theorem dX1_digest_289 : decode cX1_digest 289 = .ok (.iaload, 1) := by decide +kernel
theorem dX1_digest_290 : decode cX1_digest 290 = .ok (.istore 9, 2) := by decide +kernel
theorem dX1_digest_292 : decode cX1_digest 292 = .ok (.lload_n 2, 1) := by decide +kernel
theorem dX1_digest_293 : decode cX1_digest 293 = .ok (.ldc2_w 171, 3) := by decide +kernel
theorem dX1_digest_296 : decode cX1_digest 296 = .ok (.lmul, 1) := by decide +kernel
theorem dX1_digest_297 : decode cX1_digest 297 = .ok (.iload 9, 2) := by decide +kernel
theorem dX1_digest_299 : decode cX1_digest 299 = .ok (.i2l, 1) := by decide +kernel
theorem dX1_digest_300 : decode cX1_digest 300 = .ok (.ladd, 1) := by decide +kernel
theorem dX1_digest_301 : decode cX1_digest 301 = .ok (.lstore_n 2, 1) := by decide +kernel
theorem dX1_digest_302 : decode cX1_digest 302 = .ok (.iinc 8 1, 3) := by decide +kernel
theorem dX1_digest_305 : decode cX1_digest 305 = .ok (.goto (-27), 3) := by decide +kernel
theorem dX1_digest_308 : decode cX1_digest 308 = .ok (.iinc 4 1, 3) := by decide +kernel
theorem dX1_digest_311 : decode cX1_digest 311 = .ok (.goto (-150), 3) := by decide +kernel
theorem dX1_digest_314 : decode cX1_digest 314 = .ok (.iconst 0, 1) := by decide +kernel
theorem dX1_digest_315 : decode cX1_digest 315 = .ok (.istore 4, 2) := by decide +kernel
theorem dX1_digest_317 : decode cX1_digest 317 = .ok (.iload 4, 2) := by decide +kernel
theorem dX1_digest_319 : decode cX1_digest 319 = .ok (.bipush 10, 2) := by decide +kernel
theorem dX1_digest_321 : decode cX1_digest 321 = .ok (.if_icmp .ge 36, 3) := by decide +kernel
theorem dX1_digest_324 : decode cX1_digest 324 = .ok (.lload_n 2, 1) := by decide +kernel
theorem dX1_digest_325 : decode cX1_digest 325 = .ok (.ldc2_w 171, 3) := by decide +kernel
theorem dX1_digest_328 : decode cX1_digest 328 = .ok (.lmul, 1) := by decide +kernel
theorem dX1_digest_329 : decode cX1_digest 329 = .ok (.aload_n 0, 1) := by decide +kernel
theorem dX1_digest_330 : decode cX1_digest 330 = .ok (.getfield 23, 3) := by decide +kernel
theorem dX1_digest_333 : decode cX1_digest 333 = .ok (.iload 4, 2) := by decide +kernel
theorem dX1_digest_335 : decode cX1_digest 335 = .ok (.iaload, 1) := by decide +kernel
theorem dX1_digest_336 : decode cX1_digest 336 = .ok (.i2l, 1) := by decide +kernel
theorem dX1_digest_337 : decode cX1_digest 337 = .ok (.ladd, 1) := by decide +kernel
theorem dX1_digest_338 : decode cX1_digest 338 = .ok (.ldc2_w 171, 3) := by decide +kernel
theorem dX1_digest_341 : decode cX1_digest 341 = .ok (.lmul, 1) := by decide +kernel
theorem dX1_digest_342 : decode cX1_digest 342 = .ok (.aload_n 0, 1) := by decide +kernel
theorem dX1_digest_343 : decode cX1_digest 343 = .ok (.iload 4, 2) := by decide +kernel
theorem dX1_digest_345 : decode cX1_digest 345 = .ok (.invokevirtual 163, 3) := by decide +kernel
theorem dX1_digest_348 : decode cX1_digest 348 = .ok (.i2l, 1) := by decide +kernel
theorem dX1_digest_349 : decode cX1_digest 349 = .ok (.ladd, 1) := by decide +kernel
theorem dX1_digest_350 : decode cX1_digest 350 = .ok (.lstore_n 2, 1) := by decide +kernel
theorem dX1_digest_351 : decode cX1_digest 351 = .ok (.iinc 4 1, 3) := by decide +kernel
theorem dX1_digest_354 : decode cX1_digest 354 = .ok (.goto (-37), 3) := by decide +kernel
theorem dX1_digest_357 : decode cX1_digest 357 = .ok (.lload_n 2, 1) := by decide +kernel
theorem dX1_digest_358 : decode cX1_digest 358 = .ok (.lreturn, 1) := by decide +kernel
