theorem dX0_init_0 : decode cX0_init 0 = .ok (.aload_n 0, 1) := by decide +kernel
theorem dX0_init_1 : decode cX0_init 1 = .ok (.invokespecial 1, 3) := by decide +kernel
theorem dX0_init_4 : decode cX0_init 4 = .ok (.aload_n 0, 1) := by decide +kernel
theorem dX0_init_5 : decode cX0_init 5 = .ok (.bipush 16, 2) := by decide +kernel
theorem dX0_init_7 : decode cX0_init 7 = .ok (.newarray .int, 2) := by decide +kernel
theorem dX0_init_9 : decode cX0_init 9 = .ok (.putfield 9, 3) := by decide +kernel
theorem dX0_init_12 : decode cX0_init 12 = .ok (.aload_n 0, 1) := by decide +kernel
theorem dX0_init_13 : decode cX0_init 13 = .ok (.bipush 16, 2) := by decide +kernel
theorem dX0_init_15 : decode cX0_init 15 = .ok (.newarray .int, 2) := by decide +kernel
theorem dX0_init_17 : decode cX0_init 17 = .ok (.putfield 13, 3) := by decide +kernel
theorem dX0_init_20 : decode cX0_init 20 = .ok (.aload_n 0, 1) := by decide +kernel
theorem dX0_init_21 : decode cX0_init 21 = .ok (.bipush 16, 2) := by decide +kernel
theorem dX0_init_23 : decode cX0_init 23 = .ok (.newarray .int, 2) := by decide +kernel
theorem dX0_init_25 : decode cX0_init 25 = .ok (.putfield 16, 3) := by decide +kernel
theorem dX0_init_28 : decode cX0_init 28 = .ok (.aload_n 0, 1) := by decide +kernel
theorem dX0_init_29 : decode cX0_init 29 = .ok (.bipush 16, 2) := by decide +kernel
theorem dX0_init_31 : decode cX0_init 31 = .ok (.newarray .boolean, 2) := by decide +kernel
theorem dX0_init_33 : decode cX0_init 33 = .ok (.putfield 19, 3) := by decide +kernel
theorem dX0_init_36 : decode cX0_init 36 = .ok (.aload_n 0, 1) := by decide +kernel
theorem dX0_init_37 : decode cX0_init 37 = .ok (.bipush 10, 2) := by decide +kernel
theorem dX0_init_39 : decode cX0_init 39 = .ok (.newarray .int, 2) := by decide +kernel
theorem dX0_init_41 : decode cX0_init 41 = .ok (.putfield 23, 3) := by decide +kernel
theorem dX0_init_44 : decode cX0_init 44 = .ok (.aload_n 0, 1) := by decide +kernel
theorem dX0_init_45 : decode cX0_init 45 = .ok (.bipush 16, 2) := by decide +kernel
theorem dX0_init_47 : decode cX0_init 47 = .ok (.newarray .int, 2) := by decide +kernel
theorem dX0_init_49 : decode cX0_init 49 = .ok (.putfield 26, 3) := by decide +kernel
theorem dX0_init_52 : decode cX0_init 52 = .ok (.aload_n 0, 1) := by decide +kernel
theorem dX0_init_53 : decode cX0_init 53 = .ok (.bipush 16, 2) := by decide +kernel
theorem dX0_init_55 : decode cX0_init 55 = .ok (.newarray .int, 2) := by decide +kernel
theorem dX0_init_57 : decode cX0_init 57 = .ok (.putfield 29, 3) := by decide +kernel
theorem dX0_init_60 : decode cX0_init 60 = .ok (.aload_n 0, 1) := by decide +kernel
theorem dX0_init_61 : decode cX0_init 61 = .ok (.bipush 16, 2) := by decide +kernel
theorem dX0_init_63 : decode cX0_init 63 = .ok (.newarray .int, 2) := by decide +kernel
theorem dX0_init_65 : decode cX0_init 65 = .ok (.putfield 32, 3) := by decide +kernel
theorem dX0_init_68 : decode cX0_init 68 = .ok (.aload_n 0, 1) := by decide +kernel
theorem dX0_init_69 : decode cX0_init 69 = .ok (.bipush 16, 2) := by decide +kernel
theorem dX0_init_71 : decode cX0_init 71 = .ok (.newarray .int, 2) := by decide +kernel
theorem dX0_init_73 : decode cX0_init 73 = .ok (.putfield 35, 3) := by decide +kernel
theorem dX0_init_76 : decode cX0_init 76 = .ok (.aload_n 0, 1) := by decide +kernel
theorem dX0_init_77 : decode cX0_init 77 = .ok (.iconst 2, 1) := by decide +kernel
theorem dX0_init_78 : decode cX0_init 78 = .ok (.putfield 38, 3) := by decide +kernel
theorem dX0_init_81 : decode cX0_init 81 = .ok (.iconst 0, 1) := by decide +kernel
theorem dX0_init_82 : decode cX0_init 82 = .ok (.istore_n 1, 1) := by decide +kernel
theorem dX0_init_83 : decode cX0_init 83 = .ok (.iload_n 1, 1) := by decide +kernel
theorem dX0_init_84 : decode cX0_init 84 = .ok (.bipush 10, 2) := by decide +kernel
theorem dX0_init_86 : decode cX0_init 86 = .ok (.if_icmp .ge 16, 3) := by decide +kernel
theorem dX0_init_89 : decode cX0_init 89 = .ok (.aload_n 0, 1) := by decide +kernel
theorem dX0_init_90 : decode cX0_init 90 = .ok (.getfield 23, 3) := by decide +kernel
theorem dX0_init_93 : decode cX0_init 93 = .ok (.iload_n 1, 1) := by decide +kernel
theorem dX0_init_94 : decode cX0_init 94 = .ok (.iload_n 1, 1) := by decide +kernel
theorem dX0_init_95 : decode cX0_init 95 = .ok (.iastore, 1) := by decide +kernel
theorem dX0_init_96 : decode cX0_init 96 = .ok (.iinc 1 1, 3) := by decide +kernel
theorem dX0_init_99 : decode cX0_init 99 = .ok (.goto (-16), 3) := by decide +kernel
theorem dX0_init_102 : decode cX0_init 102 = .ok (.return_, 1) := by decide +kernel
theorem dX0_addLeg_0 : decode cX0_addLeg 0 = .ok (.iload_n 1, 1) := by decide +kernel
theorem dX0_addLeg_1 : decode cX0_addLeg 1 = .ok (.invokestatic 42, 3) := by decide +kernel
theorem dX0_addLeg_4 : decode cX0_addLeg 4 = .ok (.iload_n 2, 1) := by decide +kernel
theorem dX0_addLeg_5 : decode cX0_addLeg 5 = .ok (.iconst 1, 1) := by decide +kernel
theorem dX0_addLeg_6 : decode cX0_addLeg 6 = .ok (.if_icmp .lt 9, 3) := by decide +kernel
theorem dX0_addLeg_9 : decode cX0_addLeg 9 = .ok (.iload_n 2, 1) := by decide +kernel
theorem dX0_addLeg_10 : decode cX0_addLeg 10 = .ok (.bipush 9, 2) := by decide +kernel
theorem dX0_addLeg_12 : decode cX0_addLeg 12 = .ok (.if_icmp .le 13, 3) := by decide +kernel
theorem dX0_addLeg_15 : decode cX0_addLeg 15 = .ok (.new 46, 3) := by decide +kernel
theorem dX0_addLeg_18 : decode cX0_addLeg 18 = .ok (.dup, 1) := by decide +kernel
theorem dX0_addLeg_19 : decode cX0_addLeg 19 = .ok (.ldc 48, 2) := by decide +kernel
theorem dX0_addLeg_21 : decode cX0_addLeg 21 = .ok (.invokespecial 50, 3) := by decide +kernel
theorem dX0_addLeg_24 : decode cX0_addLeg 24 = .ok (.athrow, 1) := by decide +kernel
theorem dX0_addLeg_25 : decode cX0_addLeg 25 = .ok (.iload_n 3, 1) := by decide +kernel
theorem dX0_addLeg_26 : decode cX0_addLeg 26 = .ok (.invokestatic 53, 3) := by decide +kernel
theorem dX0_addLeg_29 : decode cX0_addLeg 29 = .ok (.ifCond .ne 13, 3) := by decide +kernel
theorem dX0_addLeg_32 : decode cX0_addLeg 32 = .ok (.new 46, 3) := by decide +kernel
theorem dX0_addLeg_35 : decode cX0_addLeg 35 = .ok (.dup, 1) := by decide +kernel
theorem dX0_addLeg_36 : decode cX0_addLeg 36 = .ok (.ldc 57, 2) := by decide +kernel
theorem dX0_addLeg_38 : decode cX0_addLeg 38 = .ok (.invokespecial 50, 3) := by decide +kernel
theorem dX0_addLeg_41 : decode cX0_addLeg 41 = .ok (.athrow, 1) := by decide +kernel
theorem dX0_addLeg_42 : decode cX0_addLeg 42 = .ok (.aload_n 0, 1) := by decide +kernel
theorem dX0_addLeg_43 : decode cX0_addLeg 43 = .ok (.getfield 59, 3) := by decide +kernel
theorem dX0_addLeg_46 : decode cX0_addLeg 46 = .ok (.bipush 16, 2) := by decide +kernel
theorem dX0_addLeg_48 : decode cX0_addLeg 48 = .ok (.if_icmp .lt 13, 3) := by decide +kernel
theorem dX0_addLeg_51 : decode cX0_addLeg 51 = .ok (.new 62, 3) := by decide +kernel
theorem dX0_addLeg_54 : decode cX0_addLeg 54 = .ok (.dup, 1) := by decide +kernel
theorem dX0_addLeg_55 : decode cX0_addLeg 55 = .ok (.ldc 64, 2) := by decide +kernel
theorem dX0_addLeg_57 : decode cX0_addLeg 57 = .ok (.invokespecial 66, 3) := by decide +kernel
theorem dX0_addLeg_60 : decode cX0_addLeg 60 = .ok (.athrow, 1) := by decide +kernel
theorem dX0_addLeg_61 : decode cX0_addLeg 61 = .ok (.aload_n 0, 1) := by decide +kernel
theorem dX0_addLeg_62 : decode cX0_addLeg 62 = .ok (.getfield 59, 3) := by decide +kernel
theorem dX0_addLeg_65 : decode cX0_addLeg 65 = .ok (.istore 4, 2) := by decide +kernel
theorem dX0_addLeg_67 : decode cX0_addLeg 67 = .ok (.aload_n 0, 1) := by decide +kernel
theorem dX0_addLeg_68 : decode cX0_addLeg 68 = .ok (.getfield 9, 3) := by decide +kernel
theorem dX0_addLeg_71 : decode cX0_addLeg 71 = .ok (.iload 4, 2) := by decide +kernel
theorem dX0_addLeg_73 : decode cX0_addLeg 73 = .ok (.iload_n 1, 1) := by decide +kernel
theorem dX0_addLeg_74 : decode cX0_addLeg 74 = .ok (.iastore, 1) := by decide +kernel
theorem dX0_addLeg_75 : decode cX0_addLeg 75 = .ok (.aload_n 0, 1) := by decide +kernel
theorem dX0_addLeg_76 : decode cX0_addLeg 76 = .ok (.getfield 13, 3) := by decide +kernel
theorem dX0_addLeg_79 : decode cX0_addLeg 79 = .ok (.iload 4, 2) := by decide +kernel
theorem dX0_addLeg_81 : decode cX0_addLeg 81 = .ok (.iload_n 2, 1) := by decide +kernel
theorem dX0_addLeg_82 : decode cX0_addLeg 82 = .ok (.iastore, 1) := by decide +kernel
theorem dX0_addLeg_83 : decode cX0_addLeg 83 = .ok (.aload_n 0, 1) := by decide +kernel
theorem dX0_addLeg_84 : decode cX0_addLeg 84 = .ok (.getfield 16, 3) := by decide +kernel
theorem dX0_addLeg_87 : decode cX0_addLeg 87 = .ok (.iload 4, 2) := by decide +kernel
theorem dX0_addLeg_89 : decode cX0_addLeg 89 = .ok (.iload_n 3, 1) := by decide +kernel
theorem dX0_addLeg_90 : decode cX0_addLeg 90 = .ok (.iastore, 1) := by decide +kernel
theorem dX0_addLeg_91 : decode cX0_addLeg 91 = .ok (.aload_n 0, 1) := by decide +kernel
theorem dX0_addLeg_92 : decode cX0_addLeg 92 = .ok (.getfield 19, 3) := by decide +kernel
theorem dX0_addLeg_95 : decode cX0_addLeg 95 = .ok (.iload 4, 2) := by decide +kernel
theorem dX0_addLeg_97 : decode cX0_addLeg 97 = .ok (.iconst 0, 1) := by decide +kernel
theorem dX0_addLeg_98 : decode cX0_addLeg 98 = .ok (.bastore, 1) := by decide +kernel
theorem dX0_addLeg_99 : decode cX0_addLeg 99 = .ok (.aload_n 0, 1) := by decide +kernel
theorem dX0_addLeg_100 : decode cX0_addLeg 100 = .ok (.iload 4, 2) := by decide +kernel
theorem dX0_addLeg_102 : decode cX0_addLeg 102 = .ok (.iconst 1, 1) := by decide +kernel
theorem dX0_addLeg_103 : decode cX0_addLeg 103 = .ok (.iadd, 1) := by decide +kernel
theorem dX0_addLeg_104 : decode cX0_addLeg 104 = .ok (.putfield 59, 3) := by decide +kernel
theorem dX0_addLeg_107 : decode cX0_addLeg 107 = .ok (.aload_n 0, 1) := by decide +kernel
theorem dX0_addLeg_108 : decode cX0_addLeg 108 = .ok (.iload 4, 2) := by decide +kernel
theorem dX0_addLeg_110 : decode cX0_addLeg 110 = .ok (.invokevirtual 67, 3) := by decide +kernel
theorem dX0_addLeg_113 : decode cX0_addLeg 113 = .ok (.iload 4, 2) := by decide +kernel
theorem dX0_addLeg_115 : decode cX0_addLeg 115 = .ok (.ireturn, 1) := by decide +kernel
theorem dX0_strikeLeg_0 : decode cX0_strikeLeg 0 = .ok (.aload_n 0, 1) := by decide +kernel
theorem dX0_strikeLeg_1 : decode cX0_strikeLeg 1 = .ok (.getfield 59, 3) := by decide +kernel
theorem dX0_strikeLeg_4 : decode cX0_strikeLeg 4 = .ok (.ifCond .gt 13, 3) := by decide +kernel
theorem dX0_strikeLeg_7 : decode cX0_strikeLeg 7 = .ok (.new 62, 3) := by decide +kernel
theorem dX0_strikeLeg_10 : decode cX0_strikeLeg 10 = .ok (.dup, 1) := by decide +kernel
theorem dX0_strikeLeg_11 : decode cX0_strikeLeg 11 = .ok (.ldc 70, 2) := by decide +kernel
theorem dX0_strikeLeg_13 : decode cX0_strikeLeg 13 = .ok (.invokespecial 66, 3) := by decide +kernel
theorem dX0_strikeLeg_16 : decode cX0_strikeLeg 16 = .ok (.athrow, 1) := by decide +kernel
theorem dX0_strikeLeg_17 : decode cX0_strikeLeg 17 = .ok (.aload_n 0, 1) := by decide +kernel
theorem dX0_strikeLeg_18 : decode cX0_strikeLeg 18 = .ok (.aload_n 0, 1) := by decide +kernel
theorem dX0_strikeLeg_19 : decode cX0_strikeLeg 19 = .ok (.getfield 59, 3) := by decide +kernel
theorem dX0_strikeLeg_22 : decode cX0_strikeLeg 22 = .ok (.iconst 1, 1) := by decide +kernel
theorem dX0_strikeLeg_23 : decode cX0_strikeLeg 23 = .ok (.isub, 1) := by decide +kernel
theorem dX0_strikeLeg_24 : decode cX0_strikeLeg 24 = .ok (.putfield 59, 3) := by decide +kernel
theorem dX0_strikeLeg_27 : decode cX0_strikeLeg 27 = .ok (.aload_n 0, 1) := by decide +kernel
theorem dX0_strikeLeg_28 : decode cX0_strikeLeg 28 = .ok (.getfield 16, 3) := by decide +kernel
theorem dX0_strikeLeg_31 : decode cX0_strikeLeg 31 = .ok (.aload_n 0, 1) := by decide +kernel
theorem dX0_strikeLeg_32 : decode cX0_strikeLeg 32 = .ok (.getfield 59, 3) := by decide +kernel
theorem dX0_strikeLeg_35 : decode cX0_strikeLeg 35 = .ok (.iaload, 1) := by decide +kernel
theorem dX0_strikeLeg_36 : decode cX0_strikeLeg 36 = .ok (.ireturn, 1) := by decide +kernel
theorem dX0_bend_0 : decode cX0_bend 0 = .ok (.aload_n 0, 1) := by decide +kernel
theorem dX0_bend_1 : decode cX0_bend 1 = .ok (.iload_n 1, 1) := by decide +kernel
theorem dX0_bend_2 : decode cX0_bend 2 = .ok (.invokevirtual 72, 3) := by decide +kernel
theorem dX0_bend_5 : decode cX0_bend 5 = .ok (.iload_n 2, 1) := by decide +kernel
theorem dX0_bend_6 : decode cX0_bend 6 = .ok (.invokestatic 42, 3) := by decide +kernel
theorem dX0_bend_9 : decode cX0_bend 9 = .ok (.aload_n 0, 1) := by decide +kernel
theorem dX0_bend_10 : decode cX0_bend 10 = .ok (.getfield 9, 3) := by decide +kernel
theorem dX0_bend_13 : decode cX0_bend 13 = .ok (.iload_n 1, 1) := by decide +kernel
theorem dX0_bend_14 : decode cX0_bend 14 = .ok (.iaload, 1) := by decide +kernel
theorem dX0_bend_15 : decode cX0_bend 15 = .ok (.istore_n 3, 1) := by decide +kernel
theorem dX0_bend_16 : decode cX0_bend 16 = .ok (.aload_n 0, 1) := by decide +kernel
theorem dX0_bend_17 : decode cX0_bend 17 = .ok (.getfield 9, 3) := by decide +kernel
theorem dX0_bend_20 : decode cX0_bend 20 = .ok (.iload_n 1, 1) := by decide +kernel
theorem dX0_bend_21 : decode cX0_bend 21 = .ok (.iload_n 2, 1) := by decide +kernel
theorem dX0_bend_22 : decode cX0_bend 22 = .ok (.iastore, 1) := by decide +kernel
theorem dX0_bend_23 : decode cX0_bend 23 = .ok (.aload_n 0, 1) := by decide +kernel
theorem dX0_bend_24 : decode cX0_bend 24 = .ok (.iload_n 1, 1) := by decide +kernel
theorem dX0_bend_25 : decode cX0_bend 25 = .ok (.invokevirtual 67, 3) := by decide +kernel
theorem dX0_bend_28 : decode cX0_bend 28 = .ok (.aload_n 0, 1) := by decide +kernel
theorem dX0_bend_29 : decode cX0_bend 29 = .ok (.invokevirtual 75, 3) := by decide +kernel
theorem dX0_bend_32 : decode cX0_bend 32 = .ok (.iload_n 3, 1) := by decide +kernel
theorem dX0_bend_33 : decode cX0_bend 33 = .ok (.ireturn, 1) := by decide +kernel
theorem dX0_setWord_0 : decode cX0_setWord 0 = .ok (.iload_n 1, 1) := by decide +kernel
theorem dX0_setWord_1 : decode cX0_setWord 1 = .ok (.invokestatic 78, 3) := by decide +kernel
theorem dX0_setWord_4 : decode cX0_setWord 4 = .ok (.iload_n 2, 1) := by decide +kernel
theorem dX0_setWord_5 : decode cX0_setWord 5 = .ok (.invokestatic 81, 3) := by decide +kernel
theorem dX0_setWord_8 : decode cX0_setWord 8 = .ok (.ifCond .ne 13, 3) := by decide +kernel
theorem dX0_setWord_11 : decode cX0_setWord 11 = .ok (.new 46, 3) := by decide +kernel
theorem dX0_setWord_14 : decode cX0_setWord 14 = .ok (.dup, 1) := by decide +kernel
theorem dX0_setWord_15 : decode cX0_setWord 15 = .ok (.ldc 84, 2) := by decide +kernel
theorem dX0_setWord_17 : decode cX0_setWord 17 = .ok (.invokespecial 50, 3) := by decide +kernel
theorem dX0_setWord_20 : decode cX0_setWord 20 = .ok (.athrow, 1) := by decide +kernel
theorem dX0_setWord_21 : decode cX0_setWord 21 = .ok (.aload_n 0, 1) := by decide +kernel
theorem dX0_setWord_22 : decode cX0_setWord 22 = .ok (.getfield 23, 3) := by decide +kernel
theorem dX0_setWord_25 : decode cX0_setWord 25 = .ok (.iload_n 1, 1) := by decide +kernel
theorem dX0_setWord_26 : decode cX0_setWord 26 = .ok (.iaload, 1) := by decide +kernel
theorem dX0_setWord_27 : decode cX0_setWord 27 = .ok (.istore_n 3, 1) := by decide +kernel
theorem dX0_setWord_28 : decode cX0_setWord 28 = .ok (.aload_n 0, 1) := by decide +kernel
theorem dX0_setWord_29 : decode cX0_setWord 29 = .ok (.getfield 23, 3) := by decide +kernel
theorem dX0_setWord_32 : decode cX0_setWord 32 = .ok (.iload_n 1, 1) := by decide +kernel
theorem dX0_setWord_33 : decode cX0_setWord 33 = .ok (.iload_n 2, 1) := by decide +kernel
theorem dX0_setWord_34 : decode cX0_setWord 34 = .ok (.iastore, 1) := by decide +kernel
theorem dX0_setWord_35 : decode cX0_setWord 35 = .ok (.aload_n 0, 1) := by decide +kernel
theorem dX0_setWord_36 : decode cX0_setWord 36 = .ok (.invokevirtual 75, 3) := by decide +kernel
theorem dX0_setWord_39 : decode cX0_setWord 39 = .ok (.iload_n 3, 1) := by decide +kernel
theorem dX0_setWord_40 : decode cX0_setWord 40 = .ok (.ireturn, 1) := by decide +kernel
theorem dX0_setStep_0 : decode cX0_setStep 0 = .ok (.iload_n 1, 1) := by decide +kernel
theorem dX0_setStep_1 : decode cX0_setStep 1 = .ok (.iconst 1, 1) := by decide +kernel
theorem dX0_setStep_2 : decode cX0_setStep 2 = .ok (.if_icmp .lt 8, 3) := by decide +kernel
theorem dX0_setStep_5 : decode cX0_setStep 5 = .ok (.iload_n 1, 1) := by decide +kernel
theorem dX0_setStep_6 : decode cX0_setStep 6 = .ok (.iconst 4, 1) := by decide +kernel
theorem dX0_setStep_7 : decode cX0_setStep 7 = .ok (.if_icmp .le 13, 3) := by decide +kernel
theorem dX0_setStep_10 : decode cX0_setStep 10 = .ok (.new 46, 3) := by decide +kernel
theorem dX0_setStep_13 : decode cX0_setStep 13 = .ok (.dup, 1) := by decide +kernel
theorem dX0_setStep_14 : decode cX0_setStep 14 = .ok (.ldc 86, 2) := by decide +kernel
theorem dX0_setStep_16 : decode cX0_setStep 16 = .ok (.invokespecial 50, 3) := by decide +kernel
theorem dX0_setStep_19 : decode cX0_setStep 19 = .ok (.athrow, 1) := by decide +kernel
theorem dX0_setStep_20 : decode cX0_setStep 20 = .ok (.aload_n 0, 1) := by decide +kernel
theorem dX0_setStep_21 : decode cX0_setStep 21 = .ok (.getfield 38, 3) := by decide +kernel
theorem dX0_setStep_24 : decode cX0_setStep 24 = .ok (.istore_n 2, 1) := by decide +kernel
theorem dX0_setStep_25 : decode cX0_setStep 25 = .ok (.aload_n 0, 1) := by decide +kernel
theorem dX0_setStep_26 : decode cX0_setStep 26 = .ok (.iload_n 1, 1) := by decide +kernel
theorem dX0_setStep_27 : decode cX0_setStep 27 = .ok (.putfield 38, 3) := by decide +kernel
theorem dX0_setStep_30 : decode cX0_setStep 30 = .ok (.aload_n 0, 1) := by decide +kernel
theorem dX0_setStep_31 : decode cX0_setStep 31 = .ok (.iconst 0, 1) := by decide +kernel
theorem dX0_setStep_32 : decode cX0_setStep 32 = .ok (.invokevirtual 67, 3) := by decide +kernel
theorem dX0_setStep_35 : decode cX0_setStep 35 = .ok (.aload_n 0, 1) := by decide +kernel
theorem dX0_setStep_36 : decode cX0_setStep 36 = .ok (.invokevirtual 75, 3) := by decide +kernel
theorem dX0_setStep_39 : decode cX0_setStep 39 = .ok (.iload_n 2, 1) := by decide +kernel
theorem dX0_setStep_40 : decode cX0_setStep 40 = .ok (.ireturn, 1) := by decide +kernel
theorem dX0_legs_0 : decode cX0_legs 0 = .ok (.aload_n 0, 1) := by decide +kernel
theorem dX0_legs_1 : decode cX0_legs 1 = .ok (.getfield 59, 3) := by decide +kernel
theorem dX0_legs_4 : decode cX0_legs 4 = .ok (.ireturn, 1) := by decide +kernel
theorem dX0_step_0 : decode cX0_step 0 = .ok (.aload_n 0, 1) := by decide +kernel
theorem dX0_step_1 : decode cX0_step 1 = .ok (.getfield 38, 3) := by decide +kernel
theorem dX0_step_4 : decode cX0_step 4 = .ok (.ireturn, 1) := by decide +kernel
theorem dX0_endX_0 : decode cX0_endX 0 = .ok (.aload_n 0, 1) := by decide +kernel
theorem dX0_endX_1 : decode cX0_endX 1 = .ok (.aload_n 0, 1) := by decide +kernel
theorem dX0_endX_2 : decode cX0_endX 2 = .ok (.getfield 59, 3) := by decide +kernel
theorem dX0_endX_5 : decode cX0_endX 5 = .ok (.invokevirtual 88, 3) := by decide +kernel
theorem dX0_endX_8 : decode cX0_endX 8 = .ok (.ireturn, 1) := by decide +kernel
theorem dX0_endY_0 : decode cX0_endY 0 = .ok (.aload_n 0, 1) := by decide +kernel
theorem dX0_endY_1 : decode cX0_endY 1 = .ok (.aload_n 0, 1) := by decide +kernel
theorem dX0_endY_2 : decode cX0_endY 2 = .ok (.getfield 59, 3) := by decide +kernel
theorem dX0_endY_5 : decode cX0_endY 5 = .ok (.invokevirtual 92, 3) := by decide +kernel
theorem dX0_endY_8 : decode cX0_endY 8 = .ok (.ireturn, 1) := by decide +kernel
theorem dX0_stepsHome_0 : decode cX0_stepsHome 0 = .ok (.aload_n 0, 1) := by decide +kernel
theorem dX0_stepsHome_1 : decode cX0_stepsHome 1 = .ok (.invokevirtual 95, 3) := by decide +kernel
theorem dX0_stepsHome_4 : decode cX0_stepsHome 4 = .ok (.invokestatic 99, 3) := by decide +kernel
theorem dX0_stepsHome_7 : decode cX0_stepsHome 7 = .ok (.aload_n 0, 1) := by decide +kernel
theorem dX0_stepsHome_8 : decode cX0_stepsHome 8 = .ok (.invokevirtual 104, 3) := by decide +kernel
theorem dX0_stepsHome_11 : decode cX0_stepsHome 11 = .ok (.invokestatic 99, 3) := by decide +kernel
theorem dX0_stepsHome_14 : decode cX0_stepsHome 14 = .ok (.invokestatic 107, 3) := by decide +kernel
theorem dX0_stepsHome_17 : decode cX0_stepsHome 17 = .ok (.ireturn, 1) := by decide +kernel
theorem dX0_returns_0 : decode cX0_returns 0 = .ok (.iconst 0, 1) := by decide +kernel
theorem dX0_returns_1 : decode cX0_returns 1 = .ok (.istore_n 1, 1) := by decide +kernel
theorem dX0_returns_2 : decode cX0_returns 2 = .ok (.iconst 0, 1) := by decide +kernel
theorem dX0_returns_3 : decode cX0_returns 3 = .ok (.istore_n 2, 1) := by decide +kernel
theorem dX0_returns_4 : decode cX0_returns 4 = .ok (.iload_n 2, 1) := by decide +kernel
theorem dX0_returns_5 : decode cX0_returns 5 = .ok (.aload_n 0, 1) := by decide +kernel
theorem dX0_returns_6 : decode cX0_returns 6 = .ok (.getfield 59, 3) := by decide +kernel
theorem dX0_returns_9 : decode cX0_returns 9 = .ok (.if_icmp .ge 20, 3) := by decide +kernel
theorem dX0_returns_12 : decode cX0_returns 12 = .ok (.aload_n 0, 1) := by decide +kernel
theorem dX0_returns_13 : decode cX0_returns 13 = .ok (.iload_n 2, 1) := by decide +kernel
theorem dX0_returns_14 : decode cX0_returns 14 = .ok (.invokevirtual 111, 3) := by decide +kernel
theorem dX0_returns_17 : decode cX0_returns 17 = .ok (.ifCond .eq 6, 3) := by decide +kernel
theorem dX0_returns_20 : decode cX0_returns 20 = .ok (.iinc 1 1, 3) := by decide +kernel
theorem dX0_returns_23 : decode cX0_returns 23 = .ok (.iinc 2 1, 3) := by decide +kernel
theorem dX0_returns_26 : decode cX0_returns 26 = .ok (.goto (-22), 3) := by decide +kernel
theorem dX0_returns_29 : decode cX0_returns 29 = .ok (.iload_n 1, 1) := by decide +kernel
theorem dX0_returns_30 : decode cX0_returns 30 = .ok (.ireturn, 1) := by decide +kernel
theorem dX0_turnOf_0 : decode cX0_turnOf 0 = .ok (.aload_n 0, 1) := by decide +kernel
theorem dX0_turnOf_1 : decode cX0_turnOf 1 = .ok (.iload_n 1, 1) := by decide +kernel
theorem dX0_turnOf_2 : decode cX0_turnOf 2 = .ok (.invokevirtual 72, 3) := by decide +kernel
theorem dX0_turnOf_5 : decode cX0_turnOf 5 = .ok (.aload_n 0, 1) := by decide +kernel
theorem dX0_turnOf_6 : decode cX0_turnOf 6 = .ok (.getfield 9, 3) := by decide +kernel
theorem dX0_turnOf_9 : decode cX0_turnOf 9 = .ok (.iload_n 1, 1) := by decide +kernel
theorem dX0_turnOf_10 : decode cX0_turnOf 10 = .ok (.iaload, 1) := by decide +kernel
theorem dX0_turnOf_11 : decode cX0_turnOf 11 = .ok (.ireturn, 1) := by decide +kernel
theorem dX0_headingOf_0 : decode cX0_headingOf 0 = .ok (.aload_n 0, 1) := by decide +kernel
theorem dX0_headingOf_1 : decode cX0_headingOf 1 = .ok (.iload_n 1, 1) := by decide +kernel
theorem dX0_headingOf_2 : decode cX0_headingOf 2 = .ok (.invokevirtual 72, 3) := by decide +kernel
theorem dX0_headingOf_5 : decode cX0_headingOf 5 = .ok (.aload_n 0, 1) := by decide +kernel
theorem dX0_headingOf_6 : decode cX0_headingOf 6 = .ok (.getfield 26, 3) := by decide +kernel
theorem dX0_headingOf_9 : decode cX0_headingOf 9 = .ok (.iload_n 1, 1) := by decide +kernel
theorem dX0_headingOf_10 : decode cX0_headingOf 10 = .ok (.iaload, 1) := by decide +kernel
theorem dX0_headingOf_11 : decode cX0_headingOf 11 = .ok (.ireturn, 1) := by decide +kernel
theorem dX0_landmarkOf_0 : decode cX0_landmarkOf 0 = .ok (.aload_n 0, 1) := by decide +kernel
theorem dX0_landmarkOf_1 : decode cX0_landmarkOf 1 = .ok (.iload_n 1, 1) := by decide +kernel
theorem dX0_landmarkOf_2 : decode cX0_landmarkOf 2 = .ok (.invokevirtual 72, 3) := by decide +kernel
theorem dX0_landmarkOf_5 : decode cX0_landmarkOf 5 = .ok (.aload_n 0, 1) := by decide +kernel
theorem dX0_landmarkOf_6 : decode cX0_landmarkOf 6 = .ok (.getfield 16, 3) := by decide +kernel
theorem dX0_landmarkOf_9 : decode cX0_landmarkOf 9 = .ok (.iload_n 1, 1) := by decide +kernel
theorem dX0_landmarkOf_10 : decode cX0_landmarkOf 10 = .ok (.iaload, 1) := by decide +kernel
theorem dX0_landmarkOf_11 : decode cX0_landmarkOf 11 = .ok (.ireturn, 1) := by decide +kernel
theorem dX0_noteOf_0 : decode cX0_noteOf 0 = .ok (.aload_n 0, 1) := by decide +kernel
theorem dX0_noteOf_1 : decode cX0_noteOf 1 = .ok (.iload_n 1, 1) := by decide +kernel
theorem dX0_noteOf_2 : decode cX0_noteOf 2 = .ok (.invokevirtual 72, 3) := by decide +kernel
theorem dX0_noteOf_5 : decode cX0_noteOf 5 = .ok (.aload_n 0, 1) := by decide +kernel
theorem dX0_noteOf_6 : decode cX0_noteOf 6 = .ok (.getfield 35, 3) := by decide +kernel
theorem dX0_noteOf_9 : decode cX0_noteOf 9 = .ok (.iload_n 1, 1) := by decide +kernel
theorem dX0_noteOf_10 : decode cX0_noteOf 10 = .ok (.iaload, 1) := by decide +kernel
theorem dX0_noteOf_11 : decode cX0_noteOf 11 = .ok (.ireturn, 1) := by decide +kernel
theorem dX0_isFolded_0 : decode cX0_isFolded 0 = .ok (.aload_n 0, 1) := by decide +kernel
theorem dX0_isFolded_1 : decode cX0_isFolded 1 = .ok (.iload_n 1, 1) := by decide +kernel
theorem dX0_isFolded_2 : decode cX0_isFolded 2 = .ok (.invokevirtual 72, 3) := by decide +kernel
theorem dX0_isFolded_5 : decode cX0_isFolded 5 = .ok (.aload_n 0, 1) := by decide +kernel
theorem dX0_isFolded_6 : decode cX0_isFolded 6 = .ok (.iload_n 1, 1) := by decide +kernel
theorem dX0_isFolded_7 : decode cX0_isFolded 7 = .ok (.invokevirtual 114, 3) := by decide +kernel
theorem dX0_isFolded_10 : decode cX0_isFolded 10 = .ok (.aload_n 0, 1) := by decide +kernel
theorem dX0_isFolded_11 : decode cX0_isFolded 11 = .ok (.getfield 9, 3) := by decide +kernel
theorem dX0_isFolded_14 : decode cX0_isFolded 14 = .ok (.iload_n 1, 1) := by decide +kernel
theorem dX0_isFolded_15 : decode cX0_isFolded 15 = .ok (.iaload, 1) := by decide +kernel
theorem dX0_isFolded_16 : decode cX0_isFolded 16 = .ok (.aload_n 0, 1) := by decide +kernel
theorem dX0_isFolded_17 : decode cX0_isFolded 17 = .ok (.getfield 38, 3) := by decide +kernel
theorem dX0_isFolded_20 : decode cX0_isFolded 20 = .ok (.imul, 1) := by decide +kernel
theorem dX0_isFolded_21 : decode cX0_isFolded 21 = .ok (.iadd, 1) := by decide +kernel
theorem dX0_isFolded_22 : decode cX0_isFolded 22 = .ok (.invokestatic 117, 3) := by decide +kernel
theorem dX0_isFolded_25 : decode cX0_isFolded 25 = .ok (.ireturn, 1) := by decide +kernel
theorem dX0_wordIn_0 : decode cX0_wordIn 0 = .ok (.aload_n 0, 1) := by decide +kernel
theorem dX0_wordIn_1 : decode cX0_wordIn 1 = .ok (.iload_n 1, 1) := by decide +kernel
theorem dX0_wordIn_2 : decode cX0_wordIn 2 = .ok (.invokevirtual 72, 3) := by decide +kernel
theorem dX0_wordIn_5 : decode cX0_wordIn 5 = .ok (.aload_n 0, 1) := by decide +kernel
theorem dX0_wordIn_6 : decode cX0_wordIn 6 = .ok (.getfield 23, 3) := by decide +kernel
theorem dX0_wordIn_9 : decode cX0_wordIn 9 = .ok (.aload_n 0, 1) := by decide +kernel
theorem dX0_wordIn_10 : decode cX0_wordIn 10 = .ok (.getfield 16, 3) := by decide +kernel
theorem dX0_wordIn_13 : decode cX0_wordIn 13 = .ok (.iload_n 1, 1) := by decide +kernel
theorem dX0_wordIn_14 : decode cX0_wordIn 14 = .ok (.iaload, 1) := by decide +kernel
theorem dX0_wordIn_15 : decode cX0_wordIn 15 = .ok (.iaload, 1) := by decide +kernel
theorem dX0_wordIn_16 : decode cX0_wordIn 16 = .ok (.ireturn, 1) := by decide +kernel
theorem dX0_wordOf_0 : decode cX0_wordOf 0 = .ok (.iload_n 1, 1) := by decide +kernel
theorem dX0_wordOf_1 : decode cX0_wordOf 1 = .ok (.invokestatic 78, 3) := by decide +kernel
theorem dX0_wordOf_4 : decode cX0_wordOf 4 = .ok (.aload_n 0, 1) := by decide +kernel
theorem dX0_wordOf_5 : decode cX0_wordOf 5 = .ok (.getfield 23, 3) := by decide +kernel
theorem dX0_wordOf_8 : decode cX0_wordOf 8 = .ok (.iload_n 1, 1) := by decide +kernel
theorem dX0_wordOf_9 : decode cX0_wordOf 9 = .ok (.iaload, 1) := by decide +kernel
theorem dX0_wordOf_10 : decode cX0_wordOf 10 = .ok (.ireturn, 1) := by decide +kernel
theorem dX0_beats_0 : decode cX0_beats 0 = .ok (.iconst 0, 1) := by decide +kernel
theorem dX0_beats_1 : decode cX0_beats 1 = .ok (.istore_n 1, 1) := by decide +kernel
theorem dX0_beats_2 : decode cX0_beats 2 = .ok (.iconst 0, 1) := by decide +kernel
theorem dX0_beats_3 : decode cX0_beats 3 = .ok (.istore_n 2, 1) := by decide +kernel
theorem dX0_beats_4 : decode cX0_beats 4 = .ok (.iload_n 2, 1) := by decide +kernel
theorem dX0_beats_5 : decode cX0_beats 5 = .ok (.aload_n 0, 1) := by decide +kernel
theorem dX0_beats_6 : decode cX0_beats 6 = .ok (.getfield 59, 3) := by decide +kernel
theorem dX0_beats_9 : decode cX0_beats 9 = .ok (.if_icmp .ge 18, 3) := by decide +kernel
theorem dX0_beats_12 : decode cX0_beats 12 = .ok (.iload_n 1, 1) := by decide +kernel
theorem dX0_beats_13 : decode cX0_beats 13 = .ok (.aload_n 0, 1) := by decide +kernel
theorem dX0_beats_14 : decode cX0_beats 14 = .ok (.getfield 13, 3) := by decide +kernel
theorem dX0_beats_17 : decode cX0_beats 17 = .ok (.iload_n 2, 1) := by decide +kernel
theorem dX0_beats_18 : decode cX0_beats 18 = .ok (.iaload, 1) := by decide +kernel
theorem dX0_beats_19 : decode cX0_beats 19 = .ok (.iadd, 1) := by decide +kernel
theorem dX0_beats_20 : decode cX0_beats 20 = .ok (.istore_n 1, 1) := by decide +kernel
theorem dX0_beats_21 : decode cX0_beats 21 = .ok (.iinc 2 1, 3) := by decide +kernel
theorem dX0_beats_24 : decode cX0_beats 24 = .ok (.goto (-20), 3) := by decide +kernel
theorem dX0_beats_27 : decode cX0_beats 27 = .ok (.iload_n 1, 1) := by decide +kernel
theorem dX0_beats_28 : decode cX0_beats 28 = .ok (.ireturn, 1) := by decide +kernel
theorem dX0_folded_0 : decode cX0_folded 0 = .ok (.iconst 0, 1) := by decide +kernel
theorem dX0_folded_1 : decode cX0_folded 1 = .ok (.istore_n 1, 1) := by decide +kernel
theorem dX0_folded_2 : decode cX0_folded 2 = .ok (.iconst 0, 1) := by decide +kernel
theorem dX0_folded_3 : decode cX0_folded 3 = .ok (.istore_n 2, 1) := by decide +kernel
theorem dX0_folded_4 : decode cX0_folded 4 = .ok (.iload_n 2, 1) := by decide +kernel
theorem dX0_folded_5 : decode cX0_folded 5 = .ok (.aload_n 0, 1) := by decide +kernel
theorem dX0_folded_6 : decode cX0_folded 6 = .ok (.getfield 59, 3) := by decide +kernel
theorem dX0_folded_9 : decode cX0_folded 9 = .ok (.if_icmp .ge 20, 3) := by decide +kernel
theorem dX0_folded_12 : decode cX0_folded 12 = .ok (.aload_n 0, 1) := by decide +kernel
theorem dX0_folded_13 : decode cX0_folded 13 = .ok (.iload_n 2, 1) := by decide +kernel
theorem dX0_folded_14 : decode cX0_folded 14 = .ok (.invokevirtual 120, 3) := by decide +kernel
theorem dX0_folded_17 : decode cX0_folded 17 = .ok (.ifCond .eq 6, 3) := by decide +kernel
theorem dX0_folded_20 : decode cX0_folded 20 = .ok (.iinc 1 1, 3) := by decide +kernel
theorem dX0_folded_23 : decode cX0_folded 23 = .ok (.iinc 2 1, 3) := by decide +kernel
theorem dX0_folded_26 : decode cX0_folded 26 = .ok (.goto (-22), 3) := by decide +kernel
theorem dX0_folded_29 : decode cX0_folded 29 = .ok (.iload_n 1, 1) := by decide +kernel
theorem dX0_folded_30 : decode cX0_folded 30 = .ok (.ireturn, 1) := by decide +kernel
theorem dX0_range_0 : decode cX0_range 0 = .ok (.aload_n 0, 1) := by decide +kernel
theorem dX0_range_1 : decode cX0_range 1 = .ok (.getfield 59, 3) := by decide +kernel
theorem dX0_range_4 : decode cX0_range 4 = .ok (.ifCond .gt 5, 3) := by decide +kernel
theorem dX0_range_7 : decode cX0_range 7 = .ok (.iconst 0, 1) := by decide +kernel
theorem dX0_range_8 : decode cX0_range 8 = .ok (.ireturn, 1) := by decide +kernel
theorem dX0_range_9 : decode cX0_range 9 = .ok (.aload_n 0, 1) := by decide +kernel
theorem dX0_range_10 : decode cX0_range 10 = .ok (.getfield 35, 3) := by decide +kernel
theorem dX0_range_13 : decode cX0_range 13 = .ok (.iconst 0, 1) := by decide +kernel
theorem dX0_range_14 : decode cX0_range 14 = .ok (.iaload, 1) := by decide +kernel
theorem dX0_range_15 : decode cX0_range 15 = .ok (.istore_n 1, 1) := by decide +kernel
theorem dX0_range_16 : decode cX0_range 16 = .ok (.aload_n 0, 1) := by decide +kernel
theorem dX0_range_17 : decode cX0_range 17 = .ok (.getfield 35, 3) := by decide +kernel
theorem dX0_range_20 : decode cX0_range 20 = .ok (.iconst 0, 1) := by decide +kernel
theorem dX0_range_21 : decode cX0_range 21 = .ok (.iaload, 1) := by decide +kernel
theorem dX0_range_22 : decode cX0_range 22 = .ok (.istore_n 2, 1) := by decide +kernel
theorem dX0_range_23 : decode cX0_range 23 = .ok (.iconst 1, 1) := by decide +kernel
theorem dX0_range_24 : decode cX0_range 24 = .ok (.istore_n 3, 1) := by decide +kernel
theorem dX0_range_25 : decode cX0_range 25 = .ok (.iload_n 3, 1) := by decide +kernel
theorem dX0_range_26 : decode cX0_range 26 = .ok (.aload_n 0, 1) := by decide +kernel
theorem dX0_range_27 : decode cX0_range 27 = .ok (.getfield 59, 3) := by decide +kernel
theorem dX0_range_30 : decode cX0_range 30 = .ok (.if_icmp .ge 31, 3) := by decide +kernel
theorem dX0_range_33 : decode cX0_range 33 = .ok (.iload_n 1, 1) := by decide +kernel
theorem dX0_range_34 : decode cX0_range 34 = .ok (.aload_n 0, 1) := by decide +kernel
theorem dX0_range_35 : decode cX0_range 35 = .ok (.getfield 35, 3) := by decide +kernel
theorem dX0_range_38 : decode cX0_range 38 = .ok (.iload_n 3, 1) := by decide +kernel
theorem dX0_range_39 : decode cX0_range 39 = .ok (.iaload, 1) := by decide +kernel
theorem dX0_range_40 : decode cX0_range 40 = .ok (.invokestatic 123, 3) := by decide +kernel
theorem dX0_range_43 : decode cX0_range 43 = .ok (.istore_n 1, 1) := by decide +kernel
theorem dX0_range_44 : decode cX0_range 44 = .ok (.iload_n 2, 1) := by decide +kernel
theorem dX0_range_45 : decode cX0_range 45 = .ok (.aload_n 0, 1) := by decide +kernel
theorem dX0_range_46 : decode cX0_range 46 = .ok (.getfield 35, 3) := by decide +kernel
theorem dX0_range_49 : decode cX0_range 49 = .ok (.iload_n 3, 1) := by decide +kernel
theorem dX0_range_50 : decode cX0_range 50 = .ok (.iaload, 1) := by decide +kernel
theorem dX0_range_51 : decode cX0_range 51 = .ok (.invokestatic 107, 3) := by decide +kernel
theorem dX0_range_54 : decode cX0_range 54 = .ok (.istore_n 2, 1) := by decide +kernel
theorem dX0_range_55 : decode cX0_range 55 = .ok (.iinc 3 1, 3) := by decide +kernel
theorem dX0_range_58 : decode cX0_range 58 = .ok (.goto (-33), 3) := by decide +kernel
theorem dX0_range_61 : decode cX0_range 61 = .ok (.iload_n 2, 1) := by decide +kernel
theorem dX0_range_62 : decode cX0_range 62 = .ok (.iload_n 1, 1) := by decide +kernel
theorem dX0_range_63 : decode cX0_range 63 = .ok (.isub, 1) := by decide +kernel
theorem dX0_range_64 : decode cX0_range 64 = .ok (.ireturn, 1) := by decide +kernel
theorem dX0_sungWith_0 : decode cX0_sungWith 0 = .ok (.iload_n 1, 1) := by decide +kernel
theorem dX0_sungWith_1 : decode cX0_sungWith 1 = .ok (.invokestatic 126, 3) := by decide +kernel
theorem dX0_sungWith_4 : decode cX0_sungWith 4 = .ok (.iconst 0, 1) := by decide +kernel
theorem dX0_sungWith_5 : decode cX0_sungWith 5 = .ok (.istore_n 2, 1) := by decide +kernel
theorem dX0_sungWith_6 : decode cX0_sungWith 6 = .ok (.iconst 0, 1) := by decide +kernel
theorem dX0_sungWith_7 : decode cX0_sungWith 7 = .ok (.istore_n 3, 1) := by decide +kernel
theorem dX0_sungWith_8 : decode cX0_sungWith 8 = .ok (.iload_n 3, 1) := by decide +kernel
theorem dX0_sungWith_9 : decode cX0_sungWith 9 = .ok (.aload_n 0, 1) := by decide +kernel
theorem dX0_sungWith_10 : decode cX0_sungWith 10 = .ok (.getfield 59, 3) := by decide +kernel
theorem dX0_sungWith_13 : decode cX0_sungWith 13 = .ok (.if_icmp .ge 27, 3) := by decide +kernel
theorem dX0_sungWith_16 : decode cX0_sungWith 16 = .ok (.aload_n 0, 1) := by decide +kernel
theorem dX0_sungWith_17 : decode cX0_sungWith 17 = .ok (.getfield 23, 3) := by decide +kernel
theorem dX0_sungWith_20 : decode cX0_sungWith 20 = .ok (.aload_n 0, 1) := by decide +kernel
theorem dX0_sungWith_21 : decode cX0_sungWith 21 = .ok (.getfield 16, 3) := by decide +kernel
theorem dX0_sungWith_24 : decode cX0_sungWith 24 = .ok (.iload_n 3, 1) := by decide +kernel
theorem dX0_sungWith_25 : decode cX0_sungWith 25 = .ok (.iaload, 1) := by decide +kernel
theorem dX0_sungWith_26 : decode cX0_sungWith 26 = .ok (.iaload, 1) := by decide +kernel
theorem dX0_sungWith_27 : decode cX0_sungWith 27 = .ok (.iload_n 1, 1) := by decide +kernel
theorem dX0_sungWith_28 : decode cX0_sungWith 28 = .ok (.if_icmp .ne 6, 3) := by decide +kernel
theorem dX0_sungWith_31 : decode cX0_sungWith 31 = .ok (.iinc 2 1, 3) := by decide +kernel
theorem dX0_sungWith_34 : decode cX0_sungWith 34 = .ok (.iinc 3 1, 3) := by decide +kernel
theorem dX0_sungWith_37 : decode cX0_sungWith 37 = .ok (.goto (-29), 3) := by decide +kernel
theorem dX0_sungWith_40 : decode cX0_sungWith 40 = .ok (.iload_n 2, 1) := by decide +kernel
theorem dX0_sungWith_41 : decode cX0_sungWith 41 = .ok (.ireturn, 1) := by decide +kernel
theorem dX0_readings_0 : decode cX0_readings 0 = .ok (.aload_n 0, 1) := by decide +kernel
theorem dX0_readings_1 : decode cX0_readings 1 = .ok (.iload_n 1, 1) := by decide +kernel
theorem dX0_readings_2 : decode cX0_readings 2 = .ok (.invokevirtual 72, 3) := by decide +kernel
theorem dX0_readings_5 : decode cX0_readings 5 = .ok (.aload_n 0, 1) := by decide +kernel
theorem dX0_readings_6 : decode cX0_readings 6 = .ok (.getfield 35, 3) := by decide +kernel
theorem dX0_readings_9 : decode cX0_readings 9 = .ok (.iload_n 1, 1) := by decide +kernel
theorem dX0_readings_10 : decode cX0_readings 10 = .ok (.iaload, 1) := by decide +kernel
theorem dX0_readings_11 : decode cX0_readings 11 = .ok (.aload_n 0, 1) := by decide +kernel
theorem dX0_readings_12 : decode cX0_readings 12 = .ok (.iload_n 1, 1) := by decide +kernel
theorem dX0_readings_13 : decode cX0_readings 13 = .ok (.invokevirtual 114, 3) := by decide +kernel
theorem dX0_readings_16 : decode cX0_readings 16 = .ok (.aload_n 0, 1) := by decide +kernel
theorem dX0_readings_17 : decode cX0_readings 17 = .ok (.getfield 38, 3) := by decide +kernel
theorem dX0_readings_20 : decode cX0_readings 20 = .ok (.iconst 4, 1) := by decide +kernel
theorem dX0_readings_21 : decode cX0_readings 21 = .ok (.invokestatic 129, 3) := by decide +kernel
theorem dX0_readings_24 : decode cX0_readings 24 = .ok (.istore_n 2, 1) := by decide +kernel
theorem dX0_readings_25 : decode cX0_readings 25 = .ok (.iload_n 2, 1) := by decide +kernel
theorem dX0_readings_26 : decode cX0_readings 26 = .ok (.aload_n 0, 1) := by decide +kernel
theorem dX0_readings_27 : decode cX0_readings 27 = .ok (.aload_n 0, 1) := by decide +kernel
theorem dX0_readings_28 : decode cX0_readings 28 = .ok (.getfield 23, 3) := by decide +kernel
theorem dX0_readings_31 : decode cX0_readings 31 = .ok (.aload_n 0, 1) := by decide +kernel
theorem dX0_readings_32 : decode cX0_readings 32 = .ok (.getfield 16, 3) := by decide +kernel
theorem dX0_readings_35 : decode cX0_readings 35 = .ok (.iload_n 1, 1) := by decide +kernel
theorem dX0_readings_36 : decode cX0_readings 36 = .ok (.iaload, 1) := by decide +kernel
theorem dX0_readings_37 : decode cX0_readings 37 = .ok (.iaload, 1) := by decide +kernel
theorem dX0_readings_38 : decode cX0_readings 38 = .ok (.bipush 10, 2) := by decide +kernel
theorem dX0_readings_40 : decode cX0_readings 40 = .ok (.invokevirtual 133, 3) := by decide +kernel
theorem dX0_readings_43 : decode cX0_readings 43 = .ok (.imul, 1) := by decide +kernel
theorem dX0_readings_44 : decode cX0_readings 44 = .ok (.ireturn, 1) := by decide +kernel
theorem dX0_rightReading_0 : decode cX0_rightReading 0 = .ok (.aload_n 0, 1) := by decide +kernel
theorem dX0_rightReading_1 : decode cX0_rightReading 1 = .ok (.iload_n 1, 1) := by decide +kernel
theorem dX0_rightReading_2 : decode cX0_rightReading 2 = .ok (.invokevirtual 72, 3) := by decide +kernel
theorem dX0_rightReading_5 : decode cX0_rightReading 5 = .ok (.aload_n 0, 1) := by decide +kernel
theorem dX0_rightReading_6 : decode cX0_rightReading 6 = .ok (.getfield 23, 3) := by decide +kernel
theorem dX0_rightReading_9 : decode cX0_rightReading 9 = .ok (.aload_n 0, 1) := by decide +kernel
theorem dX0_rightReading_10 : decode cX0_rightReading 10 = .ok (.getfield 16, 3) := by decide +kernel
theorem dX0_rightReading_13 : decode cX0_rightReading 13 = .ok (.iload_n 1, 1) := by decide +kernel
theorem dX0_rightReading_14 : decode cX0_rightReading 14 = .ok (.iaload, 1) := by decide +kernel
theorem dX0_rightReading_15 : decode cX0_rightReading 15 = .ok (.iaload, 1) := by decide +kernel
theorem dX0_rightReading_16 : decode cX0_rightReading 16 = .ok (.istore_n 2, 1) := by decide +kernel
theorem dX0_rightReading_17 : decode cX0_rightReading 17 = .ok (.aload_n 0, 1) := by decide +kernel
theorem dX0_rightReading_18 : decode cX0_rightReading 18 = .ok (.getfield 35, 3) := by decide +kernel
theorem dX0_rightReading_21 : decode cX0_rightReading 21 = .ok (.iload_n 1, 1) := by decide +kernel
theorem dX0_rightReading_22 : decode cX0_rightReading 22 = .ok (.iaload, 1) := by decide +kernel
theorem dX0_rightReading_23 : decode cX0_rightReading 23 = .ok (.aload_n 0, 1) := by decide +kernel
theorem dX0_rightReading_24 : decode cX0_rightReading 24 = .ok (.iload_n 1, 1) := by decide +kernel
theorem dX0_rightReading_25 : decode cX0_rightReading 25 = .ok (.invokevirtual 114, 3) := by decide +kernel
theorem dX0_rightReading_28 : decode cX0_rightReading 28 = .ok (.aload_n 0, 1) := by decide +kernel
theorem dX0_rightReading_29 : decode cX0_rightReading 29 = .ok (.getfield 38, 3) := by decide +kernel
theorem dX0_rightReading_32 : decode cX0_rightReading 32 = .ok (.aload_n 0, 1) := by decide +kernel
theorem dX0_rightReading_33 : decode cX0_rightReading 33 = .ok (.getfield 9, 3) := by decide +kernel
theorem dX0_rightReading_36 : decode cX0_rightReading 36 = .ok (.iload_n 1, 1) := by decide +kernel
theorem dX0_rightReading_37 : decode cX0_rightReading 37 = .ok (.iaload, 1) := by decide +kernel
theorem dX0_rightReading_38 : decode cX0_rightReading 38 = .ok (.invokestatic 129, 3) := by decide +kernel
theorem dX0_rightReading_41 : decode cX0_rightReading 41 = .ok (.istore_n 3, 1) := by decide +kernel
theorem dX0_rightReading_42 : decode cX0_rightReading 42 = .ok (.iload_n 3, 1) := by decide +kernel
theorem dX0_rightReading_43 : decode cX0_rightReading 43 = .ok (.aload_n 0, 1) := by decide +kernel
theorem dX0_rightReading_44 : decode cX0_rightReading 44 = .ok (.iload_n 2, 1) := by decide +kernel
theorem dX0_rightReading_45 : decode cX0_rightReading 45 = .ok (.bipush 10, 2) := by decide +kernel
theorem dX0_rightReading_47 : decode cX0_rightReading 47 = .ok (.invokevirtual 133, 3) := by decide +kernel
theorem dX0_rightReading_50 : decode cX0_rightReading 50 = .ok (.imul, 1) := by decide +kernel
theorem dX0_rightReading_51 : decode cX0_rightReading 51 = .ok (.aload_n 0, 1) := by decide +kernel
theorem dX0_rightReading_52 : decode cX0_rightReading 52 = .ok (.iload_n 2, 1) := by decide +kernel
theorem dX0_rightReading_53 : decode cX0_rightReading 53 = .ok (.aload_n 0, 1) := by decide +kernel
theorem dX0_rightReading_54 : decode cX0_rightReading 54 = .ok (.getfield 16, 3) := by decide +kernel
theorem dX0_rightReading_57 : decode cX0_rightReading 57 = .ok (.iload_n 1, 1) := by decide +kernel
theorem dX0_rightReading_58 : decode cX0_rightReading 58 = .ok (.iaload, 1) := by decide +kernel
theorem dX0_rightReading_59 : decode cX0_rightReading 59 = .ok (.invokevirtual 133, 3) := by decide +kernel
theorem dX0_rightReading_62 : decode cX0_rightReading 62 = .ok (.iadd, 1) := by decide +kernel
theorem dX0_rightReading_63 : decode cX0_rightReading 63 = .ok (.ireturn, 1) := by decide +kernel
theorem dX0_isAmbiguous_0 : decode cX0_isAmbiguous 0 = .ok (.aload_n 0, 1) := by decide +kernel
theorem dX0_isAmbiguous_1 : decode cX0_isAmbiguous 1 = .ok (.iload_n 1, 1) := by decide +kernel
theorem dX0_isAmbiguous_2 : decode cX0_isAmbiguous 2 = .ok (.invokevirtual 72, 3) := by decide +kernel
theorem dX0_isAmbiguous_5 : decode cX0_isAmbiguous 5 = .ok (.aload_n 0, 1) := by decide +kernel
theorem dX0_isAmbiguous_6 : decode cX0_isAmbiguous 6 = .ok (.getfield 19, 3) := by decide +kernel
theorem dX0_isAmbiguous_9 : decode cX0_isAmbiguous 9 = .ok (.iload_n 1, 1) := by decide +kernel
theorem dX0_isAmbiguous_10 : decode cX0_isAmbiguous 10 = .ok (.baload, 1) := by decide +kernel
theorem dX0_isAmbiguous_11 : decode cX0_isAmbiguous 11 = .ok (.ifCond .ne 16, 3) := by decide +kernel
theorem dX0_isAmbiguous_14 : decode cX0_isAmbiguous 14 = .ok (.aload_n 0, 1) := by decide +kernel
theorem dX0_isAmbiguous_15 : decode cX0_isAmbiguous 15 = .ok (.iload_n 1, 1) := by decide +kernel
theorem dX0_isAmbiguous_16 : decode cX0_isAmbiguous 16 = .ok (.invokevirtual 136, 3) := by decide +kernel
theorem dX0_isAmbiguous_19 : decode cX0_isAmbiguous 19 = .ok (.iconst 1, 1) := by decide +kernel
theorem dX0_isAmbiguous_20 : decode cX0_isAmbiguous 20 = .ok (.if_icmp .le 7, 3) := by decide +kernel
theorem dX0_isAmbiguous_23 : decode cX0_isAmbiguous 23 = .ok (.iconst 1, 1) := by decide +kernel
theorem dX0_isAmbiguous_24 : decode cX0_isAmbiguous 24 = .ok (.goto 4, 3) := by decide +kernel
theorem dX0_isAmbiguous_27 : decode cX0_isAmbiguous 27 = .ok (.iconst 0, 1) := by decide +kernel
theorem dX0_isAmbiguous_28 : decode cX0_isAmbiguous 28 = .ok (.ireturn, 1) := by decide +kernel
theorem dX0_isMended_0 : decode cX0_isMended 0 = .ok (.aload_n 0, 1) := by decide +kernel
theorem dX0_isMended_1 : decode cX0_isMended 1 = .ok (.iload_n 1, 1) := by decide +kernel
theorem dX0_isMended_2 : decode cX0_isMended 2 = .ok (.invokevirtual 72, 3) := by decide +kernel
theorem dX0_isMended_5 : decode cX0_isMended 5 = .ok (.aload_n 0, 1) := by decide +kernel
theorem dX0_isMended_6 : decode cX0_isMended 6 = .ok (.getfield 19, 3) := by decide +kernel
theorem dX0_isMended_9 : decode cX0_isMended 9 = .ok (.iload_n 1, 1) := by decide +kernel
theorem dX0_isMended_10 : decode cX0_isMended 10 = .ok (.baload, 1) := by decide +kernel
theorem dX0_isMended_11 : decode cX0_isMended 11 = .ok (.ireturn, 1) := by decide +kernel
theorem dX0_mend_0 : decode cX0_mend 0 = .ok (.aload_n 0, 1) := by decide +kernel
theorem dX0_mend_1 : decode cX0_mend 1 = .ok (.iload_n 1, 1) := by decide +kernel
theorem dX0_mend_2 : decode cX0_mend 2 = .ok (.invokevirtual 72, 3) := by decide +kernel
theorem dX0_mend_5 : decode cX0_mend 5 = .ok (.aload_n 0, 1) := by decide +kernel
theorem dX0_mend_6 : decode cX0_mend 6 = .ok (.iload_n 1, 1) := by decide +kernel
theorem dX0_mend_7 : decode cX0_mend 7 = .ok (.invokevirtual 139, 3) := by decide +kernel
theorem dX0_mend_10 : decode cX0_mend 10 = .ok (.ifCond .ne 13, 3) := by decide +kernel
theorem dX0_mend_13 : decode cX0_mend 13 = .ok (.new 62, 3) := by decide +kernel
theorem dX0_mend_16 : decode cX0_mend 16 = .ok (.dup, 1) := by decide +kernel
theorem dX0_mend_17 : decode cX0_mend 17 = .ok (.ldc 142, 2) := by decide +kernel
theorem dX0_mend_19 : decode cX0_mend 19 = .ok (.invokespecial 66, 3) := by decide +kernel
theorem dX0_mend_22 : decode cX0_mend 22 = .ok (.athrow, 1) := by decide +kernel
theorem dX0_mend_23 : decode cX0_mend 23 = .ok (.aload_n 0, 1) := by decide +kernel
theorem dX0_mend_24 : decode cX0_mend 24 = .ok (.getfield 19, 3) := by decide +kernel
theorem dX0_mend_27 : decode cX0_mend 27 = .ok (.iload_n 1, 1) := by decide +kernel
theorem dX0_mend_28 : decode cX0_mend 28 = .ok (.iconst 1, 1) := by decide +kernel
theorem dX0_mend_29 : decode cX0_mend 29 = .ok (.bastore, 1) := by decide +kernel
theorem dX0_mend_30 : decode cX0_mend 30 = .ok (.aload_n 0, 1) := by decide +kernel
theorem dX0_mend_31 : decode cX0_mend 31 = .ok (.iload_n 1, 1) := by decide +kernel
theorem dX0_mend_32 : decode cX0_mend 32 = .ok (.invokevirtual 144, 3) := by decide +kernel
theorem dX0_mend_35 : decode cX0_mend 35 = .ok (.ireturn, 1) := by decide +kernel
theorem dX0_mendTo_0 : decode cX0_mendTo 0 = .ok (.iload_n 1, 1) := by decide +kernel
theorem dX0_mendTo_1 : decode cX0_mendTo 1 = .ok (.iconst 1, 1) := by decide +kernel
theorem dX0_mendTo_2 : decode cX0_mendTo 2 = .ok (.if_icmp .lt 9, 3) := by decide +kernel
theorem dX0_mendTo_5 : decode cX0_mendTo 5 = .ok (.iload_n 1, 1) := by decide +kernel
theorem dX0_mendTo_6 : decode cX0_mendTo 6 = .ok (.ldc 147, 2) := by decide +kernel
theorem dX0_mendTo_8 : decode cX0_mendTo 8 = .ok (.if_icmp .le 13, 3) := by decide +kernel
theorem dX0_mendTo_11 : decode cX0_mendTo 11 = .ok (.new 46, 3) := by decide +kernel
theorem dX0_mendTo_14 : decode cX0_mendTo 14 = .ok (.dup, 1) := by decide +kernel
theorem dX0_mendTo_15 : decode cX0_mendTo 15 = .ok (.ldc 148, 2) := by decide +kernel
theorem dX0_mendTo_17 : decode cX0_mendTo 17 = .ok (.invokespecial 50, 3) := by decide +kernel
theorem dX0_mendTo_20 : decode cX0_mendTo 20 = .ok (.athrow, 1) := by decide +kernel
theorem dX0_mendTo_21 : decode cX0_mendTo 21 = .ok (.iconst 0, 1) := by decide +kernel
theorem dX0_mendTo_22 : decode cX0_mendTo 22 = .ok (.istore_n 2, 1) := by decide +kernel
theorem dX0_mendTo_23 : decode cX0_mendTo 23 = .ok (.iload_n 2, 1) := by decide +kernel
theorem dX0_mendTo_24 : decode cX0_mendTo 24 = .ok (.aload_n 0, 1) := by decide +kernel
theorem dX0_mendTo_25 : decode cX0_mendTo 25 = .ok (.getfield 59, 3) := by decide +kernel
theorem dX0_mendTo_28 : decode cX0_mendTo 28 = .ok (.if_icmp .ge 37, 3) := by decide +kernel
theorem dX0_mendTo_31 : decode cX0_mendTo 31 = .ok (.aload_n 0, 1) := by decide +kernel
theorem dX0_mendTo_32 : decode cX0_mendTo 32 = .ok (.invokevirtual 150, 3) := by decide +kernel
theorem dX0_mendTo_35 : decode cX0_mendTo 35 = .ok (.iload_n 1, 1) := by decide +kernel
theorem dX0_mendTo_36 : decode cX0_mendTo 36 = .ok (.i2l, 1) := by decide +kernel
theorem dX0_mendTo_37 : decode cX0_mendTo 37 = .ok (.lcmp, 1) := by decide +kernel
theorem dX0_mendTo_38 : decode cX0_mendTo 38 = .ok (.ifCond .le 27, 3) := by decide +kernel
theorem dX0_mendTo_41 : decode cX0_mendTo 41 = .ok (.aload_n 0, 1) := by decide +kernel
theorem dX0_mendTo_42 : decode cX0_mendTo 42 = .ok (.invokevirtual 154, 3) := by decide +kernel
theorem dX0_mendTo_45 : decode cX0_mendTo 45 = .ok (.istore_n 3, 1) := by decide +kernel
theorem dX0_mendTo_46 : decode cX0_mendTo 46 = .ok (.iload_n 3, 1) := by decide +kernel
theorem dX0_mendTo_47 : decode cX0_mendTo 47 = .ok (.ifCond .ge 5, 3) := by decide +kernel
theorem dX0_mendTo_50 : decode cX0_mendTo 50 = .ok (.iload_n 2, 1) := by decide +kernel
theorem dX0_mendTo_51 : decode cX0_mendTo 51 = .ok (.ireturn, 1) := by decide +kernel
theorem dX0_mendTo_52 : decode cX0_mendTo 52 = .ok (.aload_n 0, 1) := by decide +kernel
theorem dX0_mendTo_53 : decode cX0_mendTo 53 = .ok (.getfield 19, 3) := by decide +kernel
theorem dX0_mendTo_56 : decode cX0_mendTo 56 = .ok (.iload_n 3, 1) := by decide +kernel
theorem dX0_mendTo_57 : decode cX0_mendTo 57 = .ok (.iconst 1, 1) := by decide +kernel
theorem dX0_mendTo_58 : decode cX0_mendTo 58 = .ok (.bastore, 1) := by decide +kernel
theorem dX0_mendTo_59 : decode cX0_mendTo 59 = .ok (.iinc 2 1, 3) := by decide +kernel
theorem dX0_mendTo_62 : decode cX0_mendTo 62 = .ok (.goto (-39), 3) := by decide +kernel
theorem dX0_mendTo_65 : decode cX0_mendTo 65 = .ok (.iload_n 2, 1) := by decide +kernel
theorem dX0_mendTo_66 : decode cX0_mendTo 66 = .ok (.ireturn, 1) := by decide +kernel
theorem dX0_ambiguous_0 : decode cX0_ambiguous 0 = .ok (.iconst 0, 1) := by decide +kernel
theorem dX0_ambiguous_1 : decode cX0_ambiguous 1 = .ok (.istore_n 1, 1) := by decide +kernel
theorem dX0_ambiguous_2 : decode cX0_ambiguous 2 = .ok (.iconst 0, 1) := by decide +kernel
theorem dX0_ambiguous_3 : decode cX0_ambiguous 3 = .ok (.istore_n 2, 1) := by decide +kernel
theorem dX0_ambiguous_4 : decode cX0_ambiguous 4 = .ok (.iload_n 2, 1) := by decide +kernel
theorem dX0_ambiguous_5 : decode cX0_ambiguous 5 = .ok (.aload_n 0, 1) := by decide +kernel
theorem dX0_ambiguous_6 : decode cX0_ambiguous 6 = .ok (.getfield 59, 3) := by decide +kernel
theorem dX0_ambiguous_9 : decode cX0_ambiguous 9 = .ok (.if_icmp .ge 20, 3) := by decide +kernel
theorem dX0_ambiguous_12 : decode cX0_ambiguous 12 = .ok (.aload_n 0, 1) := by decide +kernel
theorem dX0_ambiguous_13 : decode cX0_ambiguous 13 = .ok (.iload_n 2, 1) := by decide +kernel
theorem dX0_ambiguous_14 : decode cX0_ambiguous 14 = .ok (.invokevirtual 139, 3) := by decide +kernel
theorem dX0_ambiguous_17 : decode cX0_ambiguous 17 = .ok (.ifCond .eq 6, 3) := by decide +kernel
theorem dX0_ambiguous_20 : decode cX0_ambiguous 20 = .ok (.iinc 1 1, 3) := by decide +kernel
theorem dX0_ambiguous_23 : decode cX0_ambiguous 23 = .ok (.iinc 2 1, 3) := by decide +kernel
theorem dX0_ambiguous_26 : decode cX0_ambiguous 26 = .ok (.goto (-22), 3) := by decide +kernel
theorem dX0_ambiguous_29 : decode cX0_ambiguous 29 = .ok (.iload_n 1, 1) := by decide +kernel
theorem dX0_ambiguous_30 : decode cX0_ambiguous 30 = .ok (.ireturn, 1) := by decide +kernel
theorem dX0_ways_0 : decode cX0_ways 0 = .ok (.lconst 1, 1) := by decide +kernel
theorem dX0_ways_1 : decode cX0_ways 1 = .ok (.lstore_n 1, 1) := by decide +kernel
theorem dX0_ways_2 : decode cX0_ways 2 = .ok (.iconst 0, 1) := by decide +kernel
theorem dX0_ways_3 : decode cX0_ways 3 = .ok (.istore_n 3, 1) := by decide +kernel
theorem dX0_ways_4 : decode cX0_ways 4 = .ok (.iload_n 3, 1) := by decide +kernel
theorem dX0_ways_5 : decode cX0_ways 5 = .ok (.aload_n 0, 1) := by decide +kernel
theorem dX0_ways_6 : decode cX0_ways 6 = .ok (.getfield 59, 3) := by decide +kernel
theorem dX0_ways_9 : decode cX0_ways 9 = .ok (.if_icmp .ge 32, 3) := by decide +kernel
theorem dX0_ways_12 : decode cX0_ways 12 = .ok (.aload_n 0, 1) := by decide +kernel
theorem dX0_ways_13 : decode cX0_ways 13 = .ok (.iload_n 3, 1) := by decide +kernel
theorem dX0_ways_14 : decode cX0_ways 14 = .ok (.invokevirtual 139, 3) := by decide +kernel
theorem dX0_ways_17 : decode cX0_ways 17 = .ok (.ifCond .eq 18, 3) := by decide +kernel
theorem dX0_ways_20 : decode cX0_ways 20 = .ok (.lload_n 1, 1) := by decide +kernel
theorem dX0_ways_21 : decode cX0_ways 21 = .ok (.aload_n 0, 1) := by decide +kernel
theorem dX0_ways_22 : decode cX0_ways 22 = .ok (.iload_n 3, 1) := by decide +kernel
theorem dX0_ways_23 : decode cX0_ways 23 = .ok (.invokevirtual 136, 3) := by decide +kernel
theorem dX0_ways_26 : decode cX0_ways 26 = .ok (.i2l, 1) := by decide +kernel
theorem dX0_ways_27 : decode cX0_ways 27 = .ok (.lmul, 1) := by decide +kernel
theorem dX0_ways_28 : decode cX0_ways 28 = .ok (.ldc2_w 157, 3) := by decide +kernel
theorem dX0_ways_31 : decode cX0_ways 31 = .ok (.invokestatic 159, 3) := by decide +kernel
theorem dX0_ways_34 : decode cX0_ways 34 = .ok (.lstore_n 1, 1) := by decide +kernel
theorem dX0_ways_35 : decode cX0_ways 35 = .ok (.iinc 3 1, 3) := by decide +kernel
theorem dX0_ways_38 : decode cX0_ways 38 = .ok (.goto (-34), 3) := by decide +kernel
theorem dX0_ways_41 : decode cX0_ways 41 = .ok (.lload_n 1, 1) := by decide +kernel
theorem dX0_ways_42 : decode cX0_ways 42 = .ok (.lreturn, 1) := by decide +kernel
theorem dX0_firstAmbiguous_0 : decode cX0_firstAmbiguous 0 = .ok (.iconst 0, 1) := by decide +kernel
theorem dX0_firstAmbiguous_1 : decode cX0_firstAmbiguous 1 = .ok (.istore_n 1, 1) := by decide +kernel
theorem dX0_firstAmbiguous_2 : decode cX0_firstAmbiguous 2 = .ok (.iload_n 1, 1) := by decide +kernel
theorem dX0_firstAmbiguous_3 : decode cX0_firstAmbiguous 3 = .ok (.aload_n 0, 1) := by decide +kernel
theorem dX0_firstAmbiguous_4 : decode cX0_firstAmbiguous 4 = .ok (.getfield 59, 3) := by decide +kernel
theorem dX0_firstAmbiguous_7 : decode cX0_firstAmbiguous 7 = .ok (.if_icmp .ge 19, 3) := by decide +kernel
theorem dX0_firstAmbiguous_10 : decode cX0_firstAmbiguous 10 = .ok (.aload_n 0, 1) := by decide +kernel
theorem dX0_firstAmbiguous_11 : decode cX0_firstAmbiguous 11 = .ok (.iload_n 1, 1) := by decide +kernel
theorem dX0_firstAmbiguous_12 : decode cX0_firstAmbiguous 12 = .ok (.invokevirtual 139, 3) := by decide +kernel
theorem dX0_firstAmbiguous_15 : decode cX0_firstAmbiguous 15 = .ok (.ifCond .eq 5, 3) := by decide +kernel
theorem dX0_firstAmbiguous_18 : decode cX0_firstAmbiguous 18 = .ok (.iload_n 1, 1) := by decide +kernel
theorem dX0_firstAmbiguous_19 : decode cX0_firstAmbiguous 19 = .ok (.ireturn, 1) := by decide +kernel
theorem dX0_firstAmbiguous_20 : decode cX0_firstAmbiguous 20 = .ok (.iinc 1 1, 3) := by decide +kernel
theorem dX0_firstAmbiguous_23 : decode cX0_firstAmbiguous 23 = .ok (.goto (-21), 3) := by decide +kernel
theorem dX0_firstAmbiguous_26 : decode cX0_firstAmbiguous 26 = .ok (.iconst (-1), 1) := by decide +kernel
theorem dX0_firstAmbiguous_27 : decode cX0_firstAmbiguous 27 = .ok (.ireturn, 1) := by decide +kernel
theorem dX0_ambiguousWith_0 : decode cX0_ambiguousWith 0 = .ok (.iload_n 1, 1) := by decide +kernel
theorem dX0_ambiguousWith_1 : decode cX0_ambiguousWith 1 = .ok (.invokestatic 78, 3) := by decide +kernel
theorem dX0_ambiguousWith_4 : decode cX0_ambiguousWith 4 = .ok (.iload_n 2, 1) := by decide +kernel
theorem dX0_ambiguousWith_5 : decode cX0_ambiguousWith 5 = .ok (.invokestatic 126, 3) := by decide +kernel
theorem dX0_ambiguousWith_8 : decode cX0_ambiguousWith 8 = .ok (.aload_n 0, 1) := by decide +kernel
theorem dX0_ambiguousWith_9 : decode cX0_ambiguousWith 9 = .ok (.aload_n 0, 1) := by decide +kernel
theorem dX0_ambiguousWith_10 : decode cX0_ambiguousWith 10 = .ok (.getfield 38, 3) := by decide +kernel
theorem dX0_ambiguousWith_13 : decode cX0_ambiguousWith 13 = .ok (.iload_n 1, 1) := by decide +kernel
theorem dX0_ambiguousWith_14 : decode cX0_ambiguousWith 14 = .ok (.iload_n 2, 1) := by decide +kernel
theorem dX0_ambiguousWith_15 : decode cX0_ambiguousWith 15 = .ok (.invokevirtual 162, 3) := by decide +kernel
theorem dX0_ambiguousWith_18 : decode cX0_ambiguousWith 18 = .ok (.ireturn, 1) := by decide +kernel
theorem dX0_bestWord_0 : decode cX0_bestWord 0 = .ok (.iload_n 1, 1) := by decide +kernel
theorem dX0_bestWord_1 : decode cX0_bestWord 1 = .ok (.invokestatic 78, 3) := by decide +kernel
theorem dX0_bestWord_4 : decode cX0_bestWord 4 = .ok (.iconst 0, 1) := by decide +kernel
theorem dX0_bestWord_5 : decode cX0_bestWord 5 = .ok (.istore_n 2, 1) := by decide +kernel
theorem dX0_bestWord_6 : decode cX0_bestWord 6 = .ok (.aload_n 0, 1) := by decide +kernel
theorem dX0_bestWord_7 : decode cX0_bestWord 7 = .ok (.aload_n 0, 1) := by decide +kernel
theorem dX0_bestWord_8 : decode cX0_bestWord 8 = .ok (.getfield 38, 3) := by decide +kernel
theorem dX0_bestWord_11 : decode cX0_bestWord 11 = .ok (.iload_n 1, 1) := by decide +kernel
theorem dX0_bestWord_12 : decode cX0_bestWord 12 = .ok (.iconst 0, 1) := by decide +kernel
theorem dX0_bestWord_13 : decode cX0_bestWord 13 = .ok (.invokevirtual 162, 3) := by decide +kernel
theorem dX0_bestWord_16 : decode cX0_bestWord 16 = .ok (.istore_n 3, 1) := by decide +kernel
theorem dX0_bestWord_17 : decode cX0_bestWord 17 = .ok (.iconst 1, 1) := by decide +kernel
theorem dX0_bestWord_18 : decode cX0_bestWord 18 = .ok (.istore 4, 2) := by decide +kernel
theorem dX0_bestWord_20 : decode cX0_bestWord 20 = .ok (.iload 4, 2) := by decide +kernel
theorem dX0_bestWord_22 : decode cX0_bestWord 22 = .ok (.bipush 10, 2) := by decide +kernel
theorem dX0_bestWord_24 : decode cX0_bestWord 24 = .ok (.if_icmp .ge 34, 3) := by decide +kernel
theorem dX0_bestWord_27 : decode cX0_bestWord 27 = .ok (.aload_n 0, 1) := by decide +kernel
theorem dX0_bestWord_28 : decode cX0_bestWord 28 = .ok (.aload_n 0, 1) := by decide +kernel
theorem dX0_bestWord_29 : decode cX0_bestWord 29 = .ok (.getfield 38, 3) := by decide +kernel
theorem dX0_bestWord_32 : decode cX0_bestWord 32 = .ok (.iload_n 1, 1) := by decide +kernel
theorem dX0_bestWord_33 : decode cX0_bestWord 33 = .ok (.iload 4, 2) := by decide +kernel
theorem dX0_bestWord_35 : decode cX0_bestWord 35 = .ok (.invokevirtual 162, 3) := by decide +kernel
theorem dX0_bestWord_38 : decode cX0_bestWord 38 = .ok (.istore 5, 2) := by decide +kernel
theorem dX0_bestWord_40 : decode cX0_bestWord 40 = .ok (.iload 5, 2) := by decide +kernel
theorem dX0_bestWord_42 : decode cX0_bestWord 42 = .ok (.iload_n 3, 1) := by decide +kernel
theorem dX0_bestWord_43 : decode cX0_bestWord 43 = .ok (.if_icmp .ge 9, 3) := by decide +kernel
theorem dX0_bestWord_46 : decode cX0_bestWord 46 = .ok (.iload 5, 2) := by decide +kernel
theorem dX0_bestWord_48 : decode cX0_bestWord 48 = .ok (.istore_n 3, 1) := by decide +kernel
theorem dX0_bestWord_49 : decode cX0_bestWord 49 = .ok (.iload 4, 2) := by decide +kernel
theorem dX0_bestWord_51 : decode cX0_bestWord 51 = .ok (.istore_n 2, 1) := by decide +kernel
theorem dX0_bestWord_52 : decode cX0_bestWord 52 = .ok (.iinc 4 1, 3) := by decide +kernel
theorem dX0_bestWord_55 : decode cX0_bestWord 55 = .ok (.goto (-35), 3) := by decide +kernel
theorem dX0_bestWord_58 : decode cX0_bestWord 58 = .ok (.iload_n 2, 1) := by decide +kernel
theorem dX0_bestWord_59 : decode cX0_bestWord 59 = .ok (.ireturn, 1) := by decide +kernel
theorem dX0_bestStep_0 : decode cX0_bestStep 0 = .ok (.iconst 1, 1) := by decide +kernel
theorem dX0_bestStep_1 : decode cX0_bestStep 1 = .ok (.istore_n 1, 1) := by decide +kernel
theorem dX0_bestStep_2 : decode cX0_bestStep 2 = .ok (.aload_n 0, 1) := by decide +kernel
theorem dX0_bestStep_3 : decode cX0_bestStep 3 = .ok (.iconst 1, 1) := by decide +kernel
theorem dX0_bestStep_4 : decode cX0_bestStep 4 = .ok (.iconst 0, 1) := by decide +kernel
theorem dX0_bestStep_5 : decode cX0_bestStep 5 = .ok (.aload_n 0, 1) := by decide +kernel
theorem dX0_bestStep_6 : decode cX0_bestStep 6 = .ok (.getfield 23, 3) := by decide +kernel
theorem dX0_bestStep_9 : decode cX0_bestStep 9 = .ok (.iconst 0, 1) := by decide +kernel
theorem dX0_bestStep_10 : decode cX0_bestStep 10 = .ok (.iaload, 1) := by decide +kernel
theorem dX0_bestStep_11 : decode cX0_bestStep 11 = .ok (.invokevirtual 162, 3) := by decide +kernel
theorem dX0_bestStep_14 : decode cX0_bestStep 14 = .ok (.istore_n 2, 1) := by decide +kernel
theorem dX0_bestStep_15 : decode cX0_bestStep 15 = .ok (.iconst 2, 1) := by decide +kernel
theorem dX0_bestStep_16 : decode cX0_bestStep 16 = .ok (.istore_n 3, 1) := by decide +kernel
theorem dX0_bestStep_17 : decode cX0_bestStep 17 = .ok (.iload_n 3, 1) := by decide +kernel
theorem dX0_bestStep_18 : decode cX0_bestStep 18 = .ok (.iconst 4, 1) := by decide +kernel
theorem dX0_bestStep_19 : decode cX0_bestStep 19 = .ok (.if_icmp .gt 34, 3) := by decide +kernel
theorem dX0_bestStep_22 : decode cX0_bestStep 22 = .ok (.aload_n 0, 1) := by decide +kernel
theorem dX0_bestStep_23 : decode cX0_bestStep 23 = .ok (.iload_n 3, 1) := by decide +kernel
theorem dX0_bestStep_24 : decode cX0_bestStep 24 = .ok (.iconst 0, 1) := by decide +kernel
theorem dX0_bestStep_25 : decode cX0_bestStep 25 = .ok (.aload_n 0, 1) := by decide +kernel
theorem dX0_bestStep_26 : decode cX0_bestStep 26 = .ok (.getfield 23, 3) := by decide +kernel
theorem dX0_bestStep_29 : decode cX0_bestStep 29 = .ok (.iconst 0, 1) := by decide +kernel
theorem dX0_bestStep_30 : decode cX0_bestStep 30 = .ok (.iaload, 1) := by decide +kernel
theorem dX0_bestStep_31 : decode cX0_bestStep 31 = .ok (.invokevirtual 162, 3) := by decide +kernel
theorem dX0_bestStep_34 : decode cX0_bestStep 34 = .ok (.istore 4, 2) := by decide +kernel
theorem dX0_bestStep_36 : decode cX0_bestStep 36 = .ok (.iload 4, 2) := by decide +kernel
theorem dX0_bestStep_38 : decode cX0_bestStep 38 = .ok (.iload_n 2, 1) := by decide +kernel
theorem dX0_bestStep_39 : decode cX0_bestStep 39 = .ok (.if_icmp .ge 8, 3) := by decide +kernel
theorem dX0_bestStep_42 : decode cX0_bestStep 42 = .ok (.iload 4, 2) := by decide +kernel
theorem dX0_bestStep_44 : decode cX0_bestStep 44 = .ok (.istore_n 2, 1) := by decide +kernel
theorem dX0_bestStep_45 : decode cX0_bestStep 45 = .ok (.iload_n 3, 1) := by decide +kernel
theorem dX0_bestStep_46 : decode cX0_bestStep 46 = .ok (.istore_n 1, 1) := by decide +kernel
theorem dX0_bestStep_47 : decode cX0_bestStep 47 = .ok (.iinc 3 1, 3) := by decide +kernel
theorem dX0_bestStep_50 : decode cX0_bestStep 50 = .ok (.goto (-33), 3) := by decide +kernel
theorem dX0_bestStep_53 : decode cX0_bestStep 53 = .ok (.iload_n 1, 1) := by decide +kernel
theorem dX0_bestStep_54 : decode cX0_bestStep 54 = .ok (.ireturn, 1) := by decide +kernel
theorem dX0_meanNote_0 : decode cX0_meanNote 0 = .ok (.aload_n 0, 1) := by decide +kernel
theorem dX0_meanNote_1 : decode cX0_meanNote 1 = .ok (.getfield 59, 3) := by decide +kernel
theorem dX0_meanNote_4 : decode cX0_meanNote 4 = .ok (.ifCond .gt 5, 3) := by decide +kernel
theorem dX0_meanNote_7 : decode cX0_meanNote 7 = .ok (.dconst 0, 1) := by decide +kernel
theorem dX0_meanNote_8 : decode cX0_meanNote 8 = .ok (.dreturn, 1) := by decide +kernel
theorem dX0_meanNote_9 : decode cX0_meanNote 9 = .ok (.iconst 0, 1) := by decide +kernel
theorem dX0_meanNote_10 : decode cX0_meanNote 10 = .ok (.istore_n 1, 1) := by decide +kernel
theorem dX0_meanNote_11 : decode cX0_meanNote 11 = .ok (.iconst 0, 1) := by decide +kernel
theorem dX0_meanNote_12 : decode cX0_meanNote 12 = .ok (.istore_n 2, 1) := by decide +kernel
theorem dX0_meanNote_13 : decode cX0_meanNote 13 = .ok (.iload_n 2, 1) := by decide +kernel
theorem dX0_meanNote_14 : decode cX0_meanNote 14 = .ok (.aload_n 0, 1) := by decide +kernel
theorem dX0_meanNote_15 : decode cX0_meanNote 15 = .ok (.getfield 59, 3) := by decide +kernel
theorem dX0_meanNote_18 : decode cX0_meanNote 18 = .ok (.if_icmp .ge 18, 3) := by decide +kernel
theorem dX0_meanNote_21 : decode cX0_meanNote 21 = .ok (.iload_n 1, 1) := by decide +kernel
theorem dX0_meanNote_22 : decode cX0_meanNote 22 = .ok (.aload_n 0, 1) := by decide +kernel
theorem dX0_meanNote_23 : decode cX0_meanNote 23 = .ok (.getfield 35, 3) := by decide +kernel
theorem dX0_meanNote_26 : decode cX0_meanNote 26 = .ok (.iload_n 2, 1) := by decide +kernel
theorem dX0_meanNote_27 : decode cX0_meanNote 27 = .ok (.iaload, 1) := by decide +kernel
theorem dX0_meanNote_28 : decode cX0_meanNote 28 = .ok (.iadd, 1) := by decide +kernel
theorem dX0_meanNote_29 : decode cX0_meanNote 29 = .ok (.istore_n 1, 1) := by decide +kernel
theorem dX0_meanNote_30 : decode cX0_meanNote 30 = .ok (.iinc 2 1, 3) := by decide +kernel
theorem dX0_meanNote_33 : decode cX0_meanNote 33 = .ok (.goto (-20), 3) := by decide +kernel
theorem dX0_meanNote_36 : decode cX0_meanNote 36 = .ok (.iload_n 1, 1) := by decide +kernel
theorem dX0_meanNote_37 : decode cX0_meanNote 37 = .ok (.i2d, 1) := by decide +kernel
theorem dX0_meanNote_38 : decode cX0_meanNote 38 = .ok (.aload_n 0, 1) := by decide +kernel
theorem dX0_meanNote_39 : decode cX0_meanNote 39 = .ok (.getfield 59, 3) := by decide +kernel
theorem dX0_meanNote_42 : decode cX0_meanNote 42 = .ok (.i2d, 1) := by decide +kernel
theorem dX0_meanNote_43 : decode cX0_meanNote 43 = .ok (.ddiv, 1) := by decide +kernel
theorem dX0_meanNote_44 : decode cX0_meanNote 44 = .ok (.dreturn, 1) := by decide +kernel
theorem dX0_digest_0 : decode cX0_digest 0 = .ok (.ldc2_w 166, 3) := by decide +kernel
theorem dX0_digest_3 : decode cX0_digest 3 = .ok (.lstore_n 1, 1) := by decide +kernel
theorem dX0_digest_4 : decode cX0_digest 4 = .ok (.lload_n 1, 1) := by decide +kernel
theorem dX0_digest_5 : decode cX0_digest 5 = .ok (.aload_n 0, 1) := by decide +kernel
theorem dX0_digest_6 : decode cX0_digest 6 = .ok (.invokevirtual 168, 3) := by decide +kernel
theorem dX0_digest_9 : decode cX0_digest 9 = .ok (.i2l, 1) := by decide +kernel
theorem dX0_digest_10 : decode cX0_digest 10 = .ok (.invokestatic 171, 3) := by decide +kernel
theorem dX0_digest_13 : decode cX0_digest 13 = .ok (.lstore_n 1, 1) := by decide +kernel
theorem dX0_digest_14 : decode cX0_digest 14 = .ok (.lload_n 1, 1) := by decide +kernel
theorem dX0_digest_15 : decode cX0_digest 15 = .ok (.aload_n 0, 1) := by decide +kernel
theorem dX0_digest_16 : decode cX0_digest 16 = .ok (.invokevirtual 174, 3) := by decide +kernel
theorem dX0_digest_19 : decode cX0_digest 19 = .ok (.i2l, 1) := by decide +kernel
theorem dX0_digest_20 : decode cX0_digest 20 = .ok (.invokestatic 171, 3) := by decide +kernel
theorem dX0_digest_23 : decode cX0_digest 23 = .ok (.lstore_n 1, 1) := by decide +kernel
theorem dX0_digest_24 : decode cX0_digest 24 = .ok (.lload_n 1, 1) := by decide +kernel
theorem dX0_digest_25 : decode cX0_digest 25 = .ok (.aload_n 0, 1) := by decide +kernel
theorem dX0_digest_26 : decode cX0_digest 26 = .ok (.invokevirtual 95, 3) := by decide +kernel
theorem dX0_digest_29 : decode cX0_digest 29 = .ok (.i2l, 1) := by decide +kernel
theorem dX0_digest_30 : decode cX0_digest 30 = .ok (.invokestatic 171, 3) := by decide +kernel
theorem dX0_digest_33 : decode cX0_digest 33 = .ok (.lstore_n 1, 1) := by decide +kernel
theorem dX0_digest_34 : decode cX0_digest 34 = .ok (.lload_n 1, 1) := by decide +kernel
theorem dX0_digest_35 : decode cX0_digest 35 = .ok (.aload_n 0, 1) := by decide +kernel
theorem dX0_digest_36 : decode cX0_digest 36 = .ok (.invokevirtual 104, 3) := by decide +kernel
theorem dX0_digest_39 : decode cX0_digest 39 = .ok (.i2l, 1) := by decide +kernel
theorem dX0_digest_40 : decode cX0_digest 40 = .ok (.invokestatic 171, 3) := by decide +kernel
theorem dX0_digest_43 : decode cX0_digest 43 = .ok (.lstore_n 1, 1) := by decide +kernel
theorem dX0_digest_44 : decode cX0_digest 44 = .ok (.lload_n 1, 1) := by decide +kernel
theorem dX0_digest_45 : decode cX0_digest 45 = .ok (.aload_n 0, 1) := by decide +kernel
theorem dX0_digest_46 : decode cX0_digest 46 = .ok (.invokevirtual 177, 3) := by decide +kernel
theorem dX0_digest_49 : decode cX0_digest 49 = .ok (.i2l, 1) := by decide +kernel
theorem dX0_digest_50 : decode cX0_digest 50 = .ok (.invokestatic 171, 3) := by decide +kernel
theorem dX0_digest_53 : decode cX0_digest 53 = .ok (.lstore_n 1, 1) := by decide +kernel
theorem dX0_digest_54 : decode cX0_digest 54 = .ok (.lload_n 1, 1) := by decide +kernel
theorem dX0_digest_55 : decode cX0_digest 55 = .ok (.aload_n 0, 1) := by decide +kernel
theorem dX0_digest_56 : decode cX0_digest 56 = .ok (.invokevirtual 180, 3) := by decide +kernel
theorem dX0_digest_59 : decode cX0_digest 59 = .ok (.i2l, 1) := by decide +kernel
theorem dX0_digest_60 : decode cX0_digest 60 = .ok (.invokestatic 171, 3) := by decide +kernel
theorem dX0_digest_63 : decode cX0_digest 63 = .ok (.lstore_n 1, 1) := by decide +kernel
theorem dX0_digest_64 : decode cX0_digest 64 = .ok (.lload_n 1, 1) := by decide +kernel
theorem dX0_digest_65 : decode cX0_digest 65 = .ok (.aload_n 0, 1) := by decide +kernel
theorem dX0_digest_66 : decode cX0_digest 66 = .ok (.invokevirtual 183, 3) := by decide +kernel
theorem dX0_digest_69 : decode cX0_digest 69 = .ok (.i2l, 1) := by decide +kernel
theorem dX0_digest_70 : decode cX0_digest 70 = .ok (.invokestatic 171, 3) := by decide +kernel
theorem dX0_digest_73 : decode cX0_digest 73 = .ok (.lstore_n 1, 1) := by decide +kernel
theorem dX0_digest_74 : decode cX0_digest 74 = .ok (.lload_n 1, 1) := by decide +kernel
theorem dX0_digest_75 : decode cX0_digest 75 = .ok (.aload_n 0, 1) := by decide +kernel
theorem dX0_digest_76 : decode cX0_digest 76 = .ok (.invokevirtual 186, 3) := by decide +kernel
theorem dX0_digest_79 : decode cX0_digest 79 = .ok (.i2l, 1) := by decide +kernel
theorem dX0_digest_80 : decode cX0_digest 80 = .ok (.invokestatic 171, 3) := by decide +kernel
theorem dX0_digest_83 : decode cX0_digest 83 = .ok (.lstore_n 1, 1) := by decide +kernel
theorem dX0_digest_84 : decode cX0_digest 84 = .ok (.lload_n 1, 1) := by decide +kernel
theorem dX0_digest_85 : decode cX0_digest 85 = .ok (.aload_n 0, 1) := by decide +kernel
theorem dX0_digest_86 : decode cX0_digest 86 = .ok (.invokevirtual 189, 3) := by decide +kernel
theorem dX0_digest_89 : decode cX0_digest 89 = .ok (.i2l, 1) := by decide +kernel
theorem dX0_digest_90 : decode cX0_digest 90 = .ok (.invokestatic 171, 3) := by decide +kernel
theorem dX0_digest_93 : decode cX0_digest 93 = .ok (.lstore_n 1, 1) := by decide +kernel
theorem dX0_digest_94 : decode cX0_digest 94 = .ok (.lload_n 1, 1) := by decide +kernel
theorem dX0_digest_95 : decode cX0_digest 95 = .ok (.aload_n 0, 1) := by decide +kernel
theorem dX0_digest_96 : decode cX0_digest 96 = .ok (.invokevirtual 192, 3) := by decide +kernel
theorem dX0_digest_99 : decode cX0_digest 99 = .ok (.i2l, 1) := by decide +kernel
theorem dX0_digest_100 : decode cX0_digest 100 = .ok (.invokestatic 171, 3) := by decide +kernel
theorem dX0_digest_103 : decode cX0_digest 103 = .ok (.lstore_n 1, 1) := by decide +kernel
theorem dX0_digest_104 : decode cX0_digest 104 = .ok (.lload_n 1, 1) := by decide +kernel
theorem dX0_digest_105 : decode cX0_digest 105 = .ok (.aload_n 0, 1) := by decide +kernel
theorem dX0_digest_106 : decode cX0_digest 106 = .ok (.invokevirtual 150, 3) := by decide +kernel
theorem dX0_digest_109 : decode cX0_digest 109 = .ok (.invokestatic 171, 3) := by decide +kernel
theorem dX0_digest_112 : decode cX0_digest 112 = .ok (.lstore_n 1, 1) := by decide +kernel
theorem dX0_digest_113 : decode cX0_digest 113 = .ok (.lload_n 1, 1) := by decide +kernel
theorem dX0_digest_114 : decode cX0_digest 114 = .ok (.aload_n 0, 1) := by decide +kernel
theorem dX0_digest_115 : decode cX0_digest 115 = .ok (.invokevirtual 195, 3) := by decide +kernel
theorem dX0_digest_118 : decode cX0_digest 118 = .ok (.i2l, 1) := by decide +kernel
theorem dX0_digest_119 : decode cX0_digest 119 = .ok (.invokestatic 171, 3) := by decide +kernel
theorem dX0_digest_122 : decode cX0_digest 122 = .ok (.lstore_n 1, 1) := by decide +kernel
theorem dX0_digest_123 : decode cX0_digest 123 = .ok (.iconst 0, 1) := by decide +kernel
theorem dX0_digest_124 : decode cX0_digest 124 = .ok (.istore_n 3, 1) := by decide +kernel
theorem dX0_digest_125 : decode cX0_digest 125 = .ok (.iload_n 3, 1) := by decide +kernel
theorem dX0_digest_126 : decode cX0_digest 126 = .ok (.aload_n 0, 1) := by decide +kernel
theorem dX0_digest_127 : decode cX0_digest 127 = .ok (.getfield 59, 3) := by decide +kernel
theorem dX0_digest_130 : decode cX0_digest 130 = .ok (.if_icmp .ge 16, 3) := by decide +kernel
theorem dX0_digest_133 : decode cX0_digest 133 = .ok (.aload_n 0, 1) := by decide +kernel
theorem dX0_digest_134 : decode cX0_digest 134 = .ok (.lload_n 1, 1) := by decide +kernel
theorem dX0_digest_135 : decode cX0_digest 135 = .ok (.iload_n 3, 1) := by decide +kernel
theorem dX0_digest_136 : decode cX0_digest 136 = .ok (.invokevirtual 198, 3) := by decide +kernel
theorem dX0_digest_139 : decode cX0_digest 139 = .ok (.lstore_n 1, 1) := by decide +kernel
theorem dX0_digest_140 : decode cX0_digest 140 = .ok (.iinc 3 1, 3) := by decide +kernel
theorem dX0_digest_143 : decode cX0_digest 143 = .ok (.goto (-18), 3) := by decide +kernel
theorem dX0_digest_146 : decode cX0_digest 146 = .ok (.iconst 0, 1) := by decide +kernel
theorem dX0_digest_147 : decode cX0_digest 147 = .ok (.istore_n 3, 1) := by decide +kernel
theorem dX0_digest_148 : decode cX0_digest 148 = .ok (.iload_n 3, 1) := by decide +kernel
theorem dX0_digest_149 : decode cX0_digest 149 = .ok (.bipush 10, 2) := by decide +kernel
theorem dX0_digest_151 : decode cX0_digest 151 = .ok (.if_icmp .ge 31, 3) := by decide +kernel
theorem dX0_digest_154 : decode cX0_digest 154 = .ok (.lload_n 1, 1) := by decide +kernel
theorem dX0_digest_155 : decode cX0_digest 155 = .ok (.aload_n 0, 1) := by decide +kernel
theorem dX0_digest_156 : decode cX0_digest 156 = .ok (.iload_n 3, 1) := by decide +kernel
theorem dX0_digest_157 : decode cX0_digest 157 = .ok (.invokevirtual 202, 3) := by decide +kernel
theorem dX0_digest_160 : decode cX0_digest 160 = .ok (.i2l, 1) := by decide +kernel
theorem dX0_digest_161 : decode cX0_digest 161 = .ok (.invokestatic 171, 3) := by decide +kernel
theorem dX0_digest_164 : decode cX0_digest 164 = .ok (.lstore_n 1, 1) := by decide +kernel
theorem dX0_digest_165 : decode cX0_digest 165 = .ok (.lload_n 1, 1) := by decide +kernel
theorem dX0_digest_166 : decode cX0_digest 166 = .ok (.aload_n 0, 1) := by decide +kernel
theorem dX0_digest_167 : decode cX0_digest 167 = .ok (.iload_n 3, 1) := by decide +kernel
theorem dX0_digest_168 : decode cX0_digest 168 = .ok (.invokevirtual 205, 3) := by decide +kernel
theorem dX0_digest_171 : decode cX0_digest 171 = .ok (.i2l, 1) := by decide +kernel
theorem dX0_digest_172 : decode cX0_digest 172 = .ok (.invokestatic 171, 3) := by decide +kernel
theorem dX0_digest_175 : decode cX0_digest 175 = .ok (.lstore_n 1, 1) := by decide +kernel
theorem dX0_digest_176 : decode cX0_digest 176 = .ok (.iinc 3 1, 3) := by decide +kernel
theorem dX0_digest_179 : decode cX0_digest 179 = .ok (.goto (-31), 3) := by decide +kernel
theorem dX0_digest_182 : decode cX0_digest 182 = .ok (.lload_n 1, 1) := by decide +kernel
theorem dX0_digest_183 : decode cX0_digest 183 = .ok (.lreturn, 1) := by decide +kernel
theorem dX0_isLandmark_0 : decode cX0_isLandmark 0 = .ok (.iload_n 0, 1) := by decide +kernel
theorem dX0_isLandmark_1 : decode cX0_isLandmark 1 = .ok (.ifCond .lt 13, 3) := by decide +kernel
theorem dX0_isLandmark_4 : decode cX0_isLandmark 4 = .ok (.iload_n 0, 1) := by decide +kernel
theorem dX0_isLandmark_5 : decode cX0_isLandmark 5 = .ok (.bipush 10, 2) := by decide +kernel
theorem dX0_isLandmark_7 : decode cX0_isLandmark 7 = .ok (.if_icmp .ge 7, 3) := by decide +kernel
theorem dX0_isLandmark_10 : decode cX0_isLandmark 10 = .ok (.iconst 1, 1) := by decide +kernel
theorem dX0_isLandmark_11 : decode cX0_isLandmark 11 = .ok (.goto 4, 3) := by decide +kernel
theorem dX0_isLandmark_14 : decode cX0_isLandmark 14 = .ok (.iconst 0, 1) := by decide +kernel
theorem dX0_isLandmark_15 : decode cX0_isLandmark 15 = .ok (.ireturn, 1) := by decide +kernel
theorem dX0_isWord_0 : decode cX0_isWord 0 = .ok (.iload_n 0, 1) := by decide +kernel
theorem dX0_isWord_1 : decode cX0_isWord 1 = .ok (.ifCond .lt 13, 3) := by decide +kernel
theorem dX0_isWord_4 : decode cX0_isWord 4 = .ok (.iload_n 0, 1) := by decide +kernel
theorem dX0_isWord_5 : decode cX0_isWord 5 = .ok (.bipush 10, 2) := by decide +kernel
theorem dX0_isWord_7 : decode cX0_isWord 7 = .ok (.if_icmp .ge 7, 3) := by decide +kernel
theorem dX0_isWord_10 : decode cX0_isWord 10 = .ok (.iconst 1, 1) := by decide +kernel
theorem dX0_isWord_11 : decode cX0_isWord 11 = .ok (.goto 4, 3) := by decide +kernel
theorem dX0_isWord_14 : decode cX0_isWord 14 = .ok (.iconst 0, 1) := by decide +kernel
theorem dX0_isWord_15 : decode cX0_isWord 15 = .ok (.ireturn, 1) := by decide +kernel
theorem dX0_checkTurn_0 : decode cX0_checkTurn 0 = .ok (.iload_n 0, 1) := by decide +kernel
theorem dX0_checkTurn_1 : decode cX0_checkTurn 1 = .ok (.bipush (-3), 2) := by decide +kernel
theorem dX0_checkTurn_3 : decode cX0_checkTurn 3 = .ok (.if_icmp .lt 8, 3) := by decide +kernel
theorem dX0_checkTurn_6 : decode cX0_checkTurn 6 = .ok (.iload_n 0, 1) := by decide +kernel
theorem dX0_checkTurn_7 : decode cX0_checkTurn 7 = .ok (.iconst 3, 1) := by decide +kernel
theorem dX0_checkTurn_8 : decode cX0_checkTurn 8 = .ok (.if_icmp .le 13, 3) := by decide +kernel
theorem dX0_checkTurn_11 : decode cX0_checkTurn 11 = .ok (.new 46, 3) := by decide +kernel
theorem dX0_checkTurn_14 : decode cX0_checkTurn 14 = .ok (.dup, 1) := by decide +kernel
theorem dX0_checkTurn_15 : decode cX0_checkTurn 15 = .ok (.ldc 208, 2) := by decide +kernel
theorem dX0_checkTurn_17 : decode cX0_checkTurn 17 = .ok (.invokespecial 50, 3) := by decide +kernel
theorem dX0_checkTurn_20 : decode cX0_checkTurn 20 = .ok (.athrow, 1) := by decide +kernel
theorem dX0_checkTurn_21 : decode cX0_checkTurn 21 = .ok (.return_, 1) := by decide +kernel
theorem dX0_checkLandmark_0 : decode cX0_checkLandmark 0 = .ok (.iload_n 0, 1) := by decide +kernel
theorem dX0_checkLandmark_1 : decode cX0_checkLandmark 1 = .ok (.invokestatic 53, 3) := by decide +kernel
theorem dX0_checkLandmark_4 : decode cX0_checkLandmark 4 = .ok (.ifCond .ne 13, 3) := by decide +kernel
theorem dX0_checkLandmark_7 : decode cX0_checkLandmark 7 = .ok (.new 210, 3) := by decide +kernel
theorem dX0_checkLandmark_10 : decode cX0_checkLandmark 10 = .ok (.dup, 1) := by decide +kernel
theorem dX0_checkLandmark_11 : decode cX0_checkLandmark 11 = .ok (.ldc 57, 2) := by decide +kernel
theorem dX0_checkLandmark_13 : decode cX0_checkLandmark 13 = .ok (.invokespecial 212, 3) := by decide +kernel
theorem dX0_checkLandmark_16 : decode cX0_checkLandmark 16 = .ok (.athrow, 1) := by decide +kernel
theorem dX0_checkLandmark_17 : decode cX0_checkLandmark 17 = .ok (.return_, 1) := by decide +kernel
theorem dX0_checkWord_0 : decode cX0_checkWord 0 = .ok (.iload_n 0, 1) := by decide +kernel
theorem dX0_checkWord_1 : decode cX0_checkWord 1 = .ok (.invokestatic 81, 3) := by decide +kernel
theorem dX0_checkWord_4 : decode cX0_checkWord 4 = .ok (.ifCond .ne 13, 3) := by decide +kernel
theorem dX0_checkWord_7 : decode cX0_checkWord 7 = .ok (.new 210, 3) := by decide +kernel
theorem dX0_checkWord_10 : decode cX0_checkWord 10 = .ok (.dup, 1) := by decide +kernel
theorem dX0_checkWord_11 : decode cX0_checkWord 11 = .ok (.ldc 84, 2) := by decide +kernel
theorem dX0_checkWord_13 : decode cX0_checkWord 13 = .ok (.invokespecial 212, 3) := by decide +kernel
theorem dX0_checkWord_16 : decode cX0_checkWord 16 = .ok (.athrow, 1) := by decide +kernel
theorem dX0_checkWord_17 : decode cX0_checkWord 17 = .ok (.return_, 1) := by decide +kernel
theorem dX0_checkLeg_0 : decode cX0_checkLeg 0 = .ok (.iload_n 1, 1) := by decide +kernel
theorem dX0_checkLeg_1 : decode cX0_checkLeg 1 = .ok (.ifCond .lt 11, 3) := by decide +kernel
theorem dX0_checkLeg_4 : decode cX0_checkLeg 4 = .ok (.iload_n 1, 1) := by decide +kernel
theorem dX0_checkLeg_5 : decode cX0_checkLeg 5 = .ok (.aload_n 0, 1) := by decide +kernel
theorem dX0_checkLeg_6 : decode cX0_checkLeg 6 = .ok (.getfield 59, 3) := by decide +kernel
theorem dX0_checkLeg_9 : decode cX0_checkLeg 9 = .ok (.if_icmp .lt 13, 3) := by decide +kernel
theorem dX0_checkLeg_12 : decode cX0_checkLeg 12 = .ok (.new 210, 3) := by decide +kernel
theorem dX0_checkLeg_15 : decode cX0_checkLeg 15 = .ok (.dup, 1) := by decide +kernel
theorem dX0_checkLeg_16 : decode cX0_checkLeg 16 = .ok (.ldc 213, 2) := by decide +kernel
theorem dX0_checkLeg_18 : decode cX0_checkLeg 18 = .ok (.invokespecial 212, 3) := by decide +kernel
theorem dX0_checkLeg_21 : decode cX0_checkLeg 21 = .ok (.athrow, 1) := by decide +kernel
theorem dX0_checkLeg_22 : decode cX0_checkLeg 22 = .ok (.return_, 1) := by decide +kernel
theorem dX0_headingAhead_0 : decode cX0_headingAhead 0 = .ok (.iload_n 1, 1) := by decide +kernel
theorem dX0_headingAhead_1 : decode cX0_headingAhead 1 = .ok (.ifCond .le 14, 3) := by decide +kernel
theorem dX0_headingAhead_4 : decode cX0_headingAhead 4 = .ok (.aload_n 0, 1) := by decide +kernel
theorem dX0_headingAhead_5 : decode cX0_headingAhead 5 = .ok (.getfield 26, 3) := by decide +kernel
theorem dX0_headingAhead_8 : decode cX0_headingAhead 8 = .ok (.iload_n 1, 1) := by decide +kernel
theorem dX0_headingAhead_9 : decode cX0_headingAhead 9 = .ok (.iconst 1, 1) := by decide +kernel
theorem dX0_headingAhead_10 : decode cX0_headingAhead 10 = .ok (.isub, 1) := by decide +kernel
theorem dX0_headingAhead_11 : decode cX0_headingAhead 11 = .ok (.iaload, 1) := by decide +kernel
theorem dX0_headingAhead_12 : decode cX0_headingAhead 12 = .ok (.goto 4, 3) := by decide +kernel
theorem dX0_headingAhead_15 : decode cX0_headingAhead 15 = .ok (.iconst 0, 1) := by decide +kernel
theorem dX0_headingAhead_16 : decode cX0_headingAhead 16 = .ok (.ireturn, 1) := by decide +kernel
theorem dX0_xAhead_0 : decode cX0_xAhead 0 = .ok (.iload_n 1, 1) := by decide +kernel
theorem dX0_xAhead_1 : decode cX0_xAhead 1 = .ok (.ifCond .le 14, 3) := by decide +kernel
theorem dX0_xAhead_4 : decode cX0_xAhead 4 = .ok (.aload_n 0, 1) := by decide +kernel
theorem dX0_xAhead_5 : decode cX0_xAhead 5 = .ok (.getfield 29, 3) := by decide +kernel
theorem dX0_xAhead_8 : decode cX0_xAhead 8 = .ok (.iload_n 1, 1) := by decide +kernel
theorem dX0_xAhead_9 : decode cX0_xAhead 9 = .ok (.iconst 1, 1) := by decide +kernel
theorem dX0_xAhead_10 : decode cX0_xAhead 10 = .ok (.isub, 1) := by decide +kernel
theorem dX0_xAhead_11 : decode cX0_xAhead 11 = .ok (.iaload, 1) := by decide +kernel
theorem dX0_xAhead_12 : decode cX0_xAhead 12 = .ok (.goto 4, 3) := by decide +kernel
theorem dX0_xAhead_15 : decode cX0_xAhead 15 = .ok (.iconst 0, 1) := by decide +kernel
theorem dX0_xAhead_16 : decode cX0_xAhead 16 = .ok (.ireturn, 1) := by decide +kernel
theorem dX0_yAhead_0 : decode cX0_yAhead 0 = .ok (.iload_n 1, 1) := by decide +kernel
theorem dX0_yAhead_1 : decode cX0_yAhead 1 = .ok (.ifCond .le 14, 3) := by decide +kernel
theorem dX0_yAhead_4 : decode cX0_yAhead 4 = .ok (.aload_n 0, 1) := by decide +kernel
theorem dX0_yAhead_5 : decode cX0_yAhead 5 = .ok (.getfield 32, 3) := by decide +kernel
theorem dX0_yAhead_8 : decode cX0_yAhead 8 = .ok (.iload_n 1, 1) := by decide +kernel
theorem dX0_yAhead_9 : decode cX0_yAhead 9 = .ok (.iconst 1, 1) := by decide +kernel
theorem dX0_yAhead_10 : decode cX0_yAhead 10 = .ok (.isub, 1) := by decide +kernel
theorem dX0_yAhead_11 : decode cX0_yAhead 11 = .ok (.iaload, 1) := by decide +kernel
theorem dX0_yAhead_12 : decode cX0_yAhead 12 = .ok (.goto 4, 3) := by decide +kernel
theorem dX0_yAhead_15 : decode cX0_yAhead 15 = .ok (.iconst 0, 1) := by decide +kernel
theorem dX0_yAhead_16 : decode cX0_yAhead 16 = .ok (.ireturn, 1) := by decide +kernel
theorem dX0_noteAhead_0 : decode cX0_noteAhead 0 = .ok (.iload_n 1, 1) := by decide +kernel
theorem dX0_noteAhead_1 : decode cX0_noteAhead 1 = .ok (.ifCond .le 14, 3) := by decide +kernel
theorem dX0_noteAhead_4 : decode cX0_noteAhead 4 = .ok (.aload_n 0, 1) := by decide +kernel
theorem dX0_noteAhead_5 : decode cX0_noteAhead 5 = .ok (.getfield 35, 3) := by decide +kernel
theorem dX0_noteAhead_8 : decode cX0_noteAhead 8 = .ok (.iload_n 1, 1) := by decide +kernel
theorem dX0_noteAhead_9 : decode cX0_noteAhead 9 = .ok (.iconst 1, 1) := by decide +kernel
theorem dX0_noteAhead_10 : decode cX0_noteAhead 10 = .ok (.isub, 1) := by decide +kernel
theorem dX0_noteAhead_11 : decode cX0_noteAhead 11 = .ok (.iaload, 1) := by decide +kernel
theorem dX0_noteAhead_12 : decode cX0_noteAhead 12 = .ok (.goto 5, 3) := by decide +kernel
theorem dX0_noteAhead_15 : decode cX0_noteAhead 15 = .ok (.bipush 12, 2) := by decide +kernel
theorem dX0_noteAhead_17 : decode cX0_noteAhead 17 = .ok (.ireturn, 1) := by decide +kernel
theorem dX0_follow_0 : decode cX0_follow 0 = .ok (.iload_n 1, 1) := by decide +kernel
theorem dX0_follow_1 : decode cX0_follow 1 = .ok (.istore_n 2, 1) := by decide +kernel
theorem dX0_follow_2 : decode cX0_follow 2 = .ok (.iload_n 2, 1) := by decide +kernel
theorem dX0_follow_3 : decode cX0_follow 3 = .ok (.aload_n 0, 1) := by decide +kernel
theorem dX0_follow_4 : decode cX0_follow 4 = .ok (.getfield 59, 3) := by decide +kernel
theorem dX0_follow_7 : decode cX0_follow 7 = .ok (.if_icmp .ge 107, 3) := by decide +kernel
theorem dX0_follow_10 : decode cX0_follow 10 = .ok (.aload_n 0, 1) := by decide +kernel
theorem dX0_follow_11 : decode cX0_follow 11 = .ok (.iload_n 2, 1) := by decide +kernel
theorem dX0_follow_12 : decode cX0_follow 12 = .ok (.invokevirtual 215, 3) := by decide +kernel
theorem dX0_follow_15 : decode cX0_follow 15 = .ok (.aload_n 0, 1) := by decide +kernel
theorem dX0_follow_16 : decode cX0_follow 16 = .ok (.getfield 9, 3) := by decide +kernel
theorem dX0_follow_19 : decode cX0_follow 19 = .ok (.iload_n 2, 1) := by decide +kernel
theorem dX0_follow_20 : decode cX0_follow 20 = .ok (.iaload, 1) := by decide +kernel
theorem dX0_follow_21 : decode cX0_follow 21 = .ok (.iadd, 1) := by decide +kernel
theorem dX0_follow_22 : decode cX0_follow 22 = .ok (.bipush 8, 2) := by decide +kernel
theorem dX0_follow_24 : decode cX0_follow 24 = .ok (.invokestatic 218, 3) := by decide +kernel
theorem dX0_follow_27 : decode cX0_follow 27 = .ok (.istore_n 3, 1) := by decide +kernel
theorem dX0_follow_28 : decode cX0_follow 28 = .ok (.aload_n 0, 1) := by decide +kernel
theorem dX0_follow_29 : decode cX0_follow 29 = .ok (.getfield 26, 3) := by decide +kernel
theorem dX0_follow_32 : decode cX0_follow 32 = .ok (.iload_n 2, 1) := by decide +kernel
theorem dX0_follow_33 : decode cX0_follow 33 = .ok (.iload_n 3, 1) := by decide +kernel
theorem dX0_follow_34 : decode cX0_follow 34 = .ok (.iastore, 1) := by decide +kernel
theorem dX0_follow_35 : decode cX0_follow 35 = .ok (.aload_n 0, 1) := by decide +kernel
theorem dX0_follow_36 : decode cX0_follow 36 = .ok (.getfield 29, 3) := by decide +kernel
theorem dX0_follow_39 : decode cX0_follow 39 = .ok (.iload_n 2, 1) := by decide +kernel
theorem dX0_follow_40 : decode cX0_follow 40 = .ok (.aload_n 0, 1) := by decide +kernel
theorem dX0_follow_41 : decode cX0_follow 41 = .ok (.iload_n 2, 1) := by decide +kernel
theorem dX0_follow_42 : decode cX0_follow 42 = .ok (.invokevirtual 88, 3) := by decide +kernel
theorem dX0_follow_45 : decode cX0_follow 45 = .ok (.aload_n 0, 1) := by decide +kernel
theorem dX0_follow_46 : decode cX0_follow 46 = .ok (.getfield 13, 3) := by decide +kernel
theorem dX0_follow_49 : decode cX0_follow 49 = .ok (.iload_n 2, 1) := by decide +kernel
theorem dX0_follow_50 : decode cX0_follow 50 = .ok (.iaload, 1) := by decide +kernel
theorem dX0_follow_51 : decode cX0_follow 51 = .ok (.getstatic 221, 3) := by decide +kernel
theorem dX0_follow_54 : decode cX0_follow 54 = .ok (.iload_n 3, 1) := by decide +kernel
theorem dX0_follow_55 : decode cX0_follow 55 = .ok (.iaload, 1) := by decide +kernel
theorem dX0_follow_56 : decode cX0_follow 56 = .ok (.imul, 1) := by decide +kernel
theorem dX0_follow_57 : decode cX0_follow 57 = .ok (.iadd, 1) := by decide +kernel
theorem dX0_follow_58 : decode cX0_follow 58 = .ok (.iastore, 1) := by decide +kernel
theorem dX0_follow_59 : decode cX0_follow 59 = .ok (.aload_n 0, 1) := by decide +kernel
theorem dX0_follow_60 : decode cX0_follow 60 = .ok (.getfield 32, 3) := by decide +kernel
theorem dX0_follow_63 : decode cX0_follow 63 = .ok (.iload_n 2, 1) := by decide +kernel
theorem dX0_follow_64 : decode cX0_follow 64 = .ok (.aload_n 0, 1) := by decide +kernel
theorem dX0_follow_65 : decode cX0_follow 65 = .ok (.iload_n 2, 1) := by decide +kernel
theorem dX0_follow_66 : decode cX0_follow 66 = .ok (.invokevirtual 92, 3) := by decide +kernel
theorem dX0_follow_69 : decode cX0_follow 69 = .ok (.aload_n 0, 1) := by decide +kernel
theorem dX0_follow_70 : decode cX0_follow 70 = .ok (.getfield 13, 3) := by decide +kernel
theorem dX0_follow_73 : decode cX0_follow 73 = .ok (.iload_n 2, 1) := by decide +kernel
theorem dX0_follow_74 : decode cX0_follow 74 = .ok (.iaload, 1) := by decide +kernel
theorem dX0_follow_75 : decode cX0_follow 75 = .ok (.getstatic 224, 3) := by decide +kernel
theorem dX0_follow_78 : decode cX0_follow 78 = .ok (.iload_n 3, 1) := by decide +kernel
theorem dX0_follow_79 : decode cX0_follow 79 = .ok (.iaload, 1) := by decide +kernel
theorem dX0_follow_80 : decode cX0_follow 80 = .ok (.imul, 1) := by decide +kernel
theorem dX0_follow_81 : decode cX0_follow 81 = .ok (.iadd, 1) := by decide +kernel
theorem dX0_follow_82 : decode cX0_follow 82 = .ok (.iastore, 1) := by decide +kernel
theorem dX0_follow_83 : decode cX0_follow 83 = .ok (.aload_n 0, 1) := by decide +kernel
theorem dX0_follow_84 : decode cX0_follow 84 = .ok (.getfield 35, 3) := by decide +kernel
theorem dX0_follow_87 : decode cX0_follow 87 = .ok (.iload_n 2, 1) := by decide +kernel
theorem dX0_follow_88 : decode cX0_follow 88 = .ok (.aload_n 0, 1) := by decide +kernel
theorem dX0_follow_89 : decode cX0_follow 89 = .ok (.iload_n 2, 1) := by decide +kernel
theorem dX0_follow_90 : decode cX0_follow 90 = .ok (.invokevirtual 114, 3) := by decide +kernel
theorem dX0_follow_93 : decode cX0_follow 93 = .ok (.aload_n 0, 1) := by decide +kernel
theorem dX0_follow_94 : decode cX0_follow 94 = .ok (.getfield 9, 3) := by decide +kernel
theorem dX0_follow_97 : decode cX0_follow 97 = .ok (.iload_n 2, 1) := by decide +kernel
theorem dX0_follow_98 : decode cX0_follow 98 = .ok (.iaload, 1) := by decide +kernel
theorem dX0_follow_99 : decode cX0_follow 99 = .ok (.aload_n 0, 1) := by decide +kernel
theorem dX0_follow_100 : decode cX0_follow 100 = .ok (.getfield 38, 3) := by decide +kernel
theorem dX0_follow_103 : decode cX0_follow 103 = .ok (.imul, 1) := by decide +kernel
theorem dX0_follow_104 : decode cX0_follow 104 = .ok (.invokestatic 227, 3) := by decide +kernel
theorem dX0_follow_107 : decode cX0_follow 107 = .ok (.iastore, 1) := by decide +kernel
theorem dX0_follow_108 : decode cX0_follow 108 = .ok (.iinc 2 1, 3) := by decide +kernel
theorem dX0_follow_111 : decode cX0_follow 111 = .ok (.goto (-109), 3) := by decide +kernel
theorem dX0_follow_114 : decode cX0_follow 114 = .ok (.return_, 1) := by decide +kernel
theorem dX0_endsWhereItWas_0 : decode cX0_endsWhereItWas 0 = .ok (.aload_n 0, 1) := by decide +kernel
theorem dX0_endsWhereItWas_1 : decode cX0_endsWhereItWas 1 = .ok (.getfield 29, 3) := by decide +kernel
theorem dX0_endsWhereItWas_4 : decode cX0_endsWhereItWas 4 = .ok (.iload_n 1, 1) := by decide +kernel
theorem dX0_endsWhereItWas_5 : decode cX0_endsWhereItWas 5 = .ok (.iaload, 1) := by decide +kernel
theorem dX0_endsWhereItWas_6 : decode cX0_endsWhereItWas 6 = .ok (.ifCond .ne 14, 3) := by decide +kernel
theorem dX0_endsWhereItWas_9 : decode cX0_endsWhereItWas 9 = .ok (.aload_n 0, 1) := by decide +kernel
theorem dX0_endsWhereItWas_10 : decode cX0_endsWhereItWas 10 = .ok (.getfield 32, 3) := by decide +kernel
theorem dX0_endsWhereItWas_13 : decode cX0_endsWhereItWas 13 = .ok (.iload_n 1, 1) := by decide +kernel
theorem dX0_endsWhereItWas_14 : decode cX0_endsWhereItWas 14 = .ok (.iaload, 1) := by decide +kernel
theorem dX0_endsWhereItWas_15 : decode cX0_endsWhereItWas 15 = .ok (.ifCond .ne 5, 3) := by decide +kernel
theorem dX0_endsWhereItWas_18 : decode cX0_endsWhereItWas 18 = .ok (.iconst 1, 1) := by decide +kernel
theorem dX0_endsWhereItWas_19 : decode cX0_endsWhereItWas 19 = .ok (.ireturn, 1) := by decide +kernel
theorem dX0_endsWhereItWas_20 : decode cX0_endsWhereItWas 20 = .ok (.iconst 0, 1) := by decide +kernel
theorem dX0_endsWhereItWas_21 : decode cX0_endsWhereItWas 21 = .ok (.istore_n 2, 1) := by decide +kernel
theorem dX0_endsWhereItWas_22 : decode cX0_endsWhereItWas 22 = .ok (.iload_n 2, 1) := by decide +kernel
theorem dX0_endsWhereItWas_23 : decode cX0_endsWhereItWas 23 = .ok (.iload_n 1, 1) := by decide +kernel
theorem dX0_endsWhereItWas_24 : decode cX0_endsWhereItWas 24 = .ok (.if_icmp .ge 41, 3) := by decide +kernel
theorem dX0_endsWhereItWas_27 : decode cX0_endsWhereItWas 27 = .ok (.aload_n 0, 1) := by decide +kernel
theorem dX0_endsWhereItWas_28 : decode cX0_endsWhereItWas 28 = .ok (.getfield 29, 3) := by decide +kernel
theorem dX0_endsWhereItWas_31 : decode cX0_endsWhereItWas 31 = .ok (.iload_n 2, 1) := by decide +kernel
theorem dX0_endsWhereItWas_32 : decode cX0_endsWhereItWas 32 = .ok (.iaload, 1) := by decide +kernel
theorem dX0_endsWhereItWas_33 : decode cX0_endsWhereItWas 33 = .ok (.aload_n 0, 1) := by decide +kernel
theorem dX0_endsWhereItWas_34 : decode cX0_endsWhereItWas 34 = .ok (.getfield 29, 3) := by decide +kernel
theorem dX0_endsWhereItWas_37 : decode cX0_endsWhereItWas 37 = .ok (.iload_n 1, 1) := by decide +kernel
theorem dX0_endsWhereItWas_38 : decode cX0_endsWhereItWas 38 = .ok (.iaload, 1) := by decide +kernel
theorem dX0_endsWhereItWas_39 : decode cX0_endsWhereItWas 39 = .ok (.if_icmp .ne 20, 3) := by decide +kernel
theorem dX0_endsWhereItWas_42 : decode cX0_endsWhereItWas 42 = .ok (.aload_n 0, 1) := by decide +kernel
theorem dX0_endsWhereItWas_43 : decode cX0_endsWhereItWas 43 = .ok (.getfield 32, 3) := by decide +kernel
theorem dX0_endsWhereItWas_46 : decode cX0_endsWhereItWas 46 = .ok (.iload_n 2, 1) := by decide +kernel
theorem dX0_endsWhereItWas_47 : decode cX0_endsWhereItWas 47 = .ok (.iaload, 1) := by decide +kernel
theorem dX0_endsWhereItWas_48 : decode cX0_endsWhereItWas 48 = .ok (.aload_n 0, 1) := by decide +kernel
theorem dX0_endsWhereItWas_49 : decode cX0_endsWhereItWas 49 = .ok (.getfield 32, 3) := by decide +kernel
theorem dX0_endsWhereItWas_52 : decode cX0_endsWhereItWas 52 = .ok (.iload_n 1, 1) := by decide +kernel
theorem dX0_endsWhereItWas_53 : decode cX0_endsWhereItWas 53 = .ok (.iaload, 1) := by decide +kernel
theorem dX0_endsWhereItWas_54 : decode cX0_endsWhereItWas 54 = .ok (.if_icmp .ne 5, 3) := by decide +kernel
theorem dX0_endsWhereItWas_57 : decode cX0_endsWhereItWas 57 = .ok (.iconst 1, 1) := by decide +kernel
theorem dX0_endsWhereItWas_58 : decode cX0_endsWhereItWas 58 = .ok (.ireturn, 1) := by decide +kernel
theorem dX0_endsWhereItWas_59 : decode cX0_endsWhereItWas 59 = .ok (.iinc 2 1, 3) := by decide +kernel
theorem dX0_endsWhereItWas_62 : decode cX0_endsWhereItWas 62 = .ok (.goto (-40), 3) := by decide +kernel
theorem dX0_endsWhereItWas_65 : decode cX0_endsWhereItWas 65 = .ok (.iconst 0, 1) := by decide +kernel
theorem dX0_endsWhereItWas_66 : decode cX0_endsWhereItWas 66 = .ok (.ireturn, 1) := by decide +kernel
theorem dX0_leavesVoice_0 : decode cX0_leavesVoice 0 = .ok (.iload_n 0, 1) := by decide +kernel
theorem dX0_leavesVoice_1 : decode cX0_leavesVoice 1 = .ok (.ifCond .lt 9, 3) := by decide +kernel
theorem dX0_leavesVoice_4 : decode cX0_leavesVoice 4 = .ok (.iload_n 0, 1) := by decide +kernel
theorem dX0_leavesVoice_5 : decode cX0_leavesVoice 5 = .ok (.bipush 24, 2) := by decide +kernel
theorem dX0_leavesVoice_7 : decode cX0_leavesVoice 7 = .ok (.if_icmp .le 7, 3) := by decide +kernel
theorem dX0_leavesVoice_10 : decode cX0_leavesVoice 10 = .ok (.iconst 1, 1) := by decide +kernel
theorem dX0_leavesVoice_11 : decode cX0_leavesVoice 11 = .ok (.goto 4, 3) := by decide +kernel
theorem dX0_leavesVoice_14 : decode cX0_leavesVoice 14 = .ok (.iconst 0, 1) := by decide +kernel
theorem dX0_leavesVoice_15 : decode cX0_leavesVoice 15 = .ok (.ireturn, 1) := by decide +kernel
theorem dX0_noteBehind_0 : decode cX0_noteBehind 0 = .ok (.iload_n 0, 1) := by decide +kernel
theorem dX0_noteBehind_1 : decode cX0_noteBehind 1 = .ok (.iload_n 1, 1) := by decide +kernel
theorem dX0_noteBehind_2 : decode cX0_noteBehind 2 = .ok (.iadd, 1) := by decide +kernel
theorem dX0_noteBehind_3 : decode cX0_noteBehind 3 = .ok (.istore_n 2, 1) := by decide +kernel
theorem dX0_noteBehind_4 : decode cX0_noteBehind 4 = .ok (.iload_n 2, 1) := by decide +kernel
theorem dX0_noteBehind_5 : decode cX0_noteBehind 5 = .ok (.invokestatic 117, 3) := by decide +kernel
theorem dX0_noteBehind_8 : decode cX0_noteBehind 8 = .ok (.ifCond .eq 9, 3) := by decide +kernel
theorem dX0_noteBehind_11 : decode cX0_noteBehind 11 = .ok (.iload_n 0, 1) := by decide +kernel
theorem dX0_noteBehind_12 : decode cX0_noteBehind 12 = .ok (.iload_n 1, 1) := by decide +kernel
theorem dX0_noteBehind_13 : decode cX0_noteBehind 13 = .ok (.isub, 1) := by decide +kernel
theorem dX0_noteBehind_14 : decode cX0_noteBehind 14 = .ok (.goto 4, 3) := by decide +kernel
theorem dX0_noteBehind_17 : decode cX0_noteBehind 17 = .ok (.iload_n 2, 1) := by decide +kernel
theorem dX0_noteBehind_18 : decode cX0_noteBehind 18 = .ok (.ireturn, 1) := by decide +kernel
theorem dX0_dropMarks_0 : decode cX0_dropMarks 0 = .ok (.iconst 0, 1) := by decide +kernel
theorem dX0_dropMarks_1 : decode cX0_dropMarks 1 = .ok (.istore_n 1, 1) := by decide +kernel
theorem dX0_dropMarks_2 : decode cX0_dropMarks 2 = .ok (.iload_n 1, 1) := by decide +kernel
theorem dX0_dropMarks_3 : decode cX0_dropMarks 3 = .ok (.aload_n 0, 1) := by decide +kernel
theorem dX0_dropMarks_4 : decode cX0_dropMarks 4 = .ok (.getfield 59, 3) := by decide +kernel
theorem dX0_dropMarks_7 : decode cX0_dropMarks 7 = .ok (.if_icmp .ge 16, 3) := by decide +kernel
theorem dX0_dropMarks_10 : decode cX0_dropMarks 10 = .ok (.aload_n 0, 1) := by decide +kernel
theorem dX0_dropMarks_11 : decode cX0_dropMarks 11 = .ok (.getfield 19, 3) := by decide +kernel
theorem dX0_dropMarks_14 : decode cX0_dropMarks 14 = .ok (.iload_n 1, 1) := by decide +kernel
theorem dX0_dropMarks_15 : decode cX0_dropMarks 15 = .ok (.iconst 0, 1) := by decide +kernel
theorem dX0_dropMarks_16 : decode cX0_dropMarks 16 = .ok (.bastore, 1) := by decide +kernel
theorem dX0_dropMarks_17 : decode cX0_dropMarks 17 = .ok (.iinc 1 1, 3) := by decide +kernel
theorem dX0_dropMarks_20 : decode cX0_dropMarks 20 = .ok (.goto (-18), 3) := by decide +kernel
theorem dX0_dropMarks_23 : decode cX0_dropMarks 23 = .ok (.return_, 1) := by decide +kernel
theorem dX0_turnsSungAs_0 : decode cX0_turnsSungAs 0 = .ok (.iconst 0, 1) := by decide +kernel
theorem dX0_turnsSungAs_1 : decode cX0_turnsSungAs 1 = .ok (.istore 4, 2) := by decide +kernel
theorem dX0_turnsSungAs_3 : decode cX0_turnsSungAs 3 = .ok (.bipush (-3), 2) := by decide +kernel
theorem dX0_turnsSungAs_5 : decode cX0_turnsSungAs 5 = .ok (.istore 5, 2) := by decide +kernel
theorem dX0_turnsSungAs_7 : decode cX0_turnsSungAs 7 = .ok (.iload 5, 2) := by decide +kernel
theorem dX0_turnsSungAs_9 : decode cX0_turnsSungAs 9 = .ok (.iload_n 3, 1) := by decide +kernel
theorem dX0_turnsSungAs_10 : decode cX0_turnsSungAs 10 = .ok (.if_icmp .ge 24, 3) := by decide +kernel
theorem dX0_turnsSungAs_13 : decode cX0_turnsSungAs 13 = .ok (.iload_n 1, 1) := by decide +kernel
theorem dX0_turnsSungAs_14 : decode cX0_turnsSungAs 14 = .ok (.iload 5, 2) := by decide +kernel
theorem dX0_turnsSungAs_16 : decode cX0_turnsSungAs 16 = .ok (.iload_n 2, 1) := by decide +kernel
theorem dX0_turnsSungAs_17 : decode cX0_turnsSungAs 17 = .ok (.imul, 1) := by decide +kernel
theorem dX0_turnsSungAs_18 : decode cX0_turnsSungAs 18 = .ok (.invokestatic 227, 3) := by decide +kernel
theorem dX0_turnsSungAs_21 : decode cX0_turnsSungAs 21 = .ok (.iload_n 0, 1) := by decide +kernel
theorem dX0_turnsSungAs_22 : decode cX0_turnsSungAs 22 = .ok (.if_icmp .ne 6, 3) := by decide +kernel
theorem dX0_turnsSungAs_25 : decode cX0_turnsSungAs 25 = .ok (.iinc 4 1, 3) := by decide +kernel
theorem dX0_turnsSungAs_28 : decode cX0_turnsSungAs 28 = .ok (.iinc 5 1, 3) := by decide +kernel
theorem dX0_turnsSungAs_31 : decode cX0_turnsSungAs 31 = .ok (.goto (-24), 3) := by decide +kernel
theorem dX0_turnsSungAs_34 : decode cX0_turnsSungAs 34 = .ok (.iload 4, 2) := by decide +kernel
theorem dX0_turnsSungAs_36 : decode cX0_turnsSungAs 36 = .ok (.ireturn, 1) := by decide +kernel
theorem dX0_landmarksNamed_0 : decode cX0_landmarksNamed 0 = .ok (.iconst 0, 1) := by decide +kernel
theorem dX0_landmarksNamed_1 : decode cX0_landmarksNamed 1 = .ok (.istore_n 3, 1) := by decide +kernel
theorem dX0_landmarksNamed_2 : decode cX0_landmarksNamed 2 = .ok (.iconst 0, 1) := by decide +kernel
theorem dX0_landmarksNamed_3 : decode cX0_landmarksNamed 3 = .ok (.istore 4, 2) := by decide +kernel
theorem dX0_landmarksNamed_5 : decode cX0_landmarksNamed 5 = .ok (.iload 4, 2) := by decide +kernel
theorem dX0_landmarksNamed_7 : decode cX0_landmarksNamed 7 = .ok (.iload_n 2, 1) := by decide +kernel
theorem dX0_landmarksNamed_8 : decode cX0_landmarksNamed 8 = .ok (.if_icmp .ge 23, 3) := by decide +kernel
theorem dX0_landmarksNamed_11 : decode cX0_landmarksNamed 11 = .ok (.aload_n 0, 1) := by decide +kernel
theorem dX0_landmarksNamed_12 : decode cX0_landmarksNamed 12 = .ok (.getfield 23, 3) := by decide +kernel
theorem dX0_landmarksNamed_15 : decode cX0_landmarksNamed 15 = .ok (.iload 4, 2) := by decide +kernel
theorem dX0_landmarksNamed_17 : decode cX0_landmarksNamed 17 = .ok (.iaload, 1) := by decide +kernel
theorem dX0_landmarksNamed_18 : decode cX0_landmarksNamed 18 = .ok (.iload_n 1, 1) := by decide +kernel
theorem dX0_landmarksNamed_19 : decode cX0_landmarksNamed 19 = .ok (.if_icmp .ne 6, 3) := by decide +kernel
theorem dX0_landmarksNamed_22 : decode cX0_landmarksNamed 22 = .ok (.iinc 3 1, 3) := by decide +kernel
theorem dX0_landmarksNamed_25 : decode cX0_landmarksNamed 25 = .ok (.iinc 4 1, 3) := by decide +kernel
theorem dX0_landmarksNamed_28 : decode cX0_landmarksNamed 28 = .ok (.goto (-23), 3) := by decide +kernel
theorem dX0_landmarksNamed_31 : decode cX0_landmarksNamed 31 = .ok (.iload_n 3, 1) := by decide +kernel
theorem dX0_landmarksNamed_32 : decode cX0_landmarksNamed 32 = .ok (.ireturn, 1) := by decide +kernel
theorem dX0_mostAmbiguous_0 : decode cX0_mostAmbiguous 0 = .ok (.iconst (-1), 1) := by decide +kernel
theorem dX0_mostAmbiguous_1 : decode cX0_mostAmbiguous 1 = .ok (.istore_n 1, 1) := by decide +kernel
theorem dX0_mostAmbiguous_2 : decode cX0_mostAmbiguous 2 = .ok (.iconst 1, 1) := by decide +kernel
theorem dX0_mostAmbiguous_3 : decode cX0_mostAmbiguous 3 = .ok (.istore_n 2, 1) := by decide +kernel
theorem dX0_mostAmbiguous_4 : decode cX0_mostAmbiguous 4 = .ok (.iconst 0, 1) := by decide +kernel
theorem dX0_mostAmbiguous_5 : decode cX0_mostAmbiguous 5 = .ok (.istore_n 3, 1) := by decide +kernel
theorem dX0_mostAmbiguous_6 : decode cX0_mostAmbiguous 6 = .ok (.iload_n 3, 1) := by decide +kernel
theorem dX0_mostAmbiguous_7 : decode cX0_mostAmbiguous 7 = .ok (.aload_n 0, 1) := by decide +kernel
theorem dX0_mostAmbiguous_8 : decode cX0_mostAmbiguous 8 = .ok (.getfield 59, 3) := by decide +kernel
theorem dX0_mostAmbiguous_11 : decode cX0_mostAmbiguous 11 = .ok (.if_icmp .ge 36, 3) := by decide +kernel
theorem dX0_mostAmbiguous_14 : decode cX0_mostAmbiguous 14 = .ok (.aload_n 0, 1) := by decide +kernel
theorem dX0_mostAmbiguous_15 : decode cX0_mostAmbiguous 15 = .ok (.iload_n 3, 1) := by decide +kernel
theorem dX0_mostAmbiguous_16 : decode cX0_mostAmbiguous 16 = .ok (.invokevirtual 136, 3) := by decide +kernel
theorem dX0_mostAmbiguous_19 : decode cX0_mostAmbiguous 19 = .ok (.istore 4, 2) := by decide +kernel
theorem dX0_mostAmbiguous_21 : decode cX0_mostAmbiguous 21 = .ok (.aload_n 0, 1) := by decide +kernel
theorem dX0_mostAmbiguous_22 : decode cX0_mostAmbiguous 22 = .ok (.getfield 19, 3) := by decide +kernel
theorem dX0_mostAmbiguous_25 : decode cX0_mostAmbiguous 25 = .ok (.iload_n 3, 1) := by decide +kernel
theorem dX0_mostAmbiguous_26 : decode cX0_mostAmbiguous 26 = .ok (.baload, 1) := by decide +kernel
theorem dX0_mostAmbiguous_27 : decode cX0_mostAmbiguous 27 = .ok (.ifCond .ne 14, 3) := by decide +kernel
theorem dX0_mostAmbiguous_30 : decode cX0_mostAmbiguous 30 = .ok (.iload 4, 2) := by decide +kernel
theorem dX0_mostAmbiguous_32 : decode cX0_mostAmbiguous 32 = .ok (.iload_n 2, 1) := by decide +kernel
theorem dX0_mostAmbiguous_33 : decode cX0_mostAmbiguous 33 = .ok (.if_icmp .le 8, 3) := by decide +kernel
theorem dX0_mostAmbiguous_36 : decode cX0_mostAmbiguous 36 = .ok (.iload 4, 2) := by decide +kernel
theorem dX0_mostAmbiguous_38 : decode cX0_mostAmbiguous 38 = .ok (.istore_n 2, 1) := by decide +kernel
theorem dX0_mostAmbiguous_39 : decode cX0_mostAmbiguous 39 = .ok (.iload_n 3, 1) := by decide +kernel
theorem dX0_mostAmbiguous_40 : decode cX0_mostAmbiguous 40 = .ok (.istore_n 1, 1) := by decide +kernel
theorem dX0_mostAmbiguous_41 : decode cX0_mostAmbiguous 41 = .ok (.iinc 3 1, 3) := by decide +kernel
theorem dX0_mostAmbiguous_44 : decode cX0_mostAmbiguous 44 = .ok (.goto (-38), 3) := by decide +kernel
theorem dX0_mostAmbiguous_47 : decode cX0_mostAmbiguous 47 = .ok (.iload_n 1, 1) := by decide +kernel
theorem dX0_mostAmbiguous_48 : decode cX0_mostAmbiguous 48 = .ok (.ireturn, 1) := by decide +kernel
theorem dX0_unmendedWith_0 : decode cX0_unmendedWith 0 = .ok (.iconst 0, 1) := by decide +kernel
theorem dX0_unmendedWith_1 : decode cX0_unmendedWith 1 = .ok (.istore 4, 2) := by decide +kernel
theorem dX0_unmendedWith_3 : decode cX0_unmendedWith 3 = .ok (.bipush 12, 2) := by decide +kernel
theorem dX0_unmendedWith_5 : decode cX0_unmendedWith 5 = .ok (.istore 5, 2) := by decide +kernel
theorem dX0_unmendedWith_7 : decode cX0_unmendedWith 7 = .ok (.iconst 0, 1) := by decide +kernel
theorem dX0_unmendedWith_8 : decode cX0_unmendedWith 8 = .ok (.istore 6, 2) := by decide +kernel
theorem dX0_unmendedWith_10 : decode cX0_unmendedWith 10 = .ok (.iload 6, 2) := by decide +kernel
theorem dX0_unmendedWith_12 : decode cX0_unmendedWith 12 = .ok (.aload_n 0, 1) := by decide +kernel
theorem dX0_unmendedWith_13 : decode cX0_unmendedWith 13 = .ok (.getfield 59, 3) := by decide +kernel
theorem dX0_unmendedWith_16 : decode cX0_unmendedWith 16 = .ok (.if_icmp .ge 73, 3) := by decide +kernel
theorem dX0_unmendedWith_19 : decode cX0_unmendedWith 19 = .ok (.iload 5, 2) := by decide +kernel
theorem dX0_unmendedWith_21 : decode cX0_unmendedWith 21 = .ok (.aload_n 0, 1) := by decide +kernel
theorem dX0_unmendedWith_22 : decode cX0_unmendedWith 22 = .ok (.getfield 9, 3) := by decide +kernel
theorem dX0_unmendedWith_25 : decode cX0_unmendedWith 25 = .ok (.iload 6, 2) := by decide +kernel
theorem dX0_unmendedWith_27 : decode cX0_unmendedWith 27 = .ok (.iaload, 1) := by decide +kernel
theorem dX0_unmendedWith_28 : decode cX0_unmendedWith 28 = .ok (.iload_n 1, 1) := by decide +kernel
theorem dX0_unmendedWith_29 : decode cX0_unmendedWith 29 = .ok (.imul, 1) := by decide +kernel
theorem dX0_unmendedWith_30 : decode cX0_unmendedWith 30 = .ok (.invokestatic 227, 3) := by decide +kernel
theorem dX0_unmendedWith_33 : decode cX0_unmendedWith 33 = .ok (.istore 7, 2) := by decide +kernel
theorem dX0_unmendedWith_35 : decode cX0_unmendedWith 35 = .ok (.iload 7, 2) := by decide +kernel
theorem dX0_unmendedWith_37 : decode cX0_unmendedWith 37 = .ok (.iload 5, 2) := by decide +kernel
theorem dX0_unmendedWith_39 : decode cX0_unmendedWith 39 = .ok (.iload_n 1, 1) := by decide +kernel
theorem dX0_unmendedWith_40 : decode cX0_unmendedWith 40 = .ok (.iconst 4, 1) := by decide +kernel
theorem dX0_unmendedWith_41 : decode cX0_unmendedWith 41 = .ok (.invokestatic 129, 3) := by decide +kernel
theorem dX0_unmendedWith_44 : decode cX0_unmendedWith 44 = .ok (.iconst 1, 1) := by decide +kernel
theorem dX0_unmendedWith_45 : decode cX0_unmendedWith 45 = .ok (.if_icmp .le 7, 3) := by decide +kernel
theorem dX0_unmendedWith_48 : decode cX0_unmendedWith 48 = .ok (.iconst 1, 1) := by decide +kernel
theorem dX0_unmendedWith_49 : decode cX0_unmendedWith 49 = .ok (.goto 4, 3) := by decide +kernel
theorem dX0_unmendedWith_52 : decode cX0_unmendedWith 52 = .ok (.iconst 0, 1) := by decide +kernel
theorem dX0_unmendedWith_53 : decode cX0_unmendedWith 53 = .ok (.istore 8, 2) := by decide +kernel
theorem dX0_unmendedWith_55 : decode cX0_unmendedWith 55 = .ok (.iload 8, 2) := by decide +kernel
theorem dX0_unmendedWith_57 : decode cX0_unmendedWith 57 = .ok (.ifCond .ne 19, 3) := by decide +kernel
theorem dX0_unmendedWith_60 : decode cX0_unmendedWith 60 = .ok (.aload_n 0, 1) := by decide +kernel
theorem dX0_unmendedWith_61 : decode cX0_unmendedWith 61 = .ok (.aload_n 0, 1) := by decide +kernel
theorem dX0_unmendedWith_62 : decode cX0_unmendedWith 62 = .ok (.getfield 16, 3) := by decide +kernel
theorem dX0_unmendedWith_65 : decode cX0_unmendedWith 65 = .ok (.iload 6, 2) := by decide +kernel
theorem dX0_unmendedWith_67 : decode cX0_unmendedWith 67 = .ok (.iaload, 1) := by decide +kernel
theorem dX0_unmendedWith_68 : decode cX0_unmendedWith 68 = .ok (.iload_n 2, 1) := by decide +kernel
theorem dX0_unmendedWith_69 : decode cX0_unmendedWith 69 = .ok (.iload_n 3, 1) := by decide +kernel
theorem dX0_unmendedWith_70 : decode cX0_unmendedWith 70 = .ok (.invokevirtual 230, 3) := by decide +kernel
theorem dX0_unmendedWith_73 : decode cX0_unmendedWith 73 = .ok (.ifCond .eq 6, 3) := by decide +kernel
theorem dX0_unmendedWith_76 : decode cX0_unmendedWith 76 = .ok (.iinc 4 1, 3) := by decide +kernel
theorem dX0_unmendedWith_79 : decode cX0_unmendedWith 79 = .ok (.iload 7, 2) := by decide +kernel
theorem dX0_unmendedWith_81 : decode cX0_unmendedWith 81 = .ok (.istore 5, 2) := by decide +kernel
theorem dX0_unmendedWith_83 : decode cX0_unmendedWith 83 = .ok (.iinc 6 1, 3) := by decide +kernel
theorem dX0_unmendedWith_86 : decode cX0_unmendedWith 86 = .ok (.goto (-76), 3) := by decide +kernel
theorem dX0_unmendedWith_89 : decode cX0_unmendedWith 89 = .ok (.iload 4, 2) := by decide +kernel
theorem dX0_unmendedWith_91 : decode cX0_unmendedWith 91 = .ok (.ireturn, 1) := by decide +kernel
theorem dX0_sharesWordIf_0 : decode cX0_sharesWordIf 0 = .ok (.aload_n 0, 1) := by decide +kernel
theorem dX0_sharesWordIf_1 : decode cX0_sharesWordIf 1 = .ok (.iload_n 1, 1) := by decide +kernel
theorem dX0_sharesWordIf_2 : decode cX0_sharesWordIf 2 = .ok (.iload_n 2, 1) := by decide +kernel
theorem dX0_sharesWordIf_3 : decode cX0_sharesWordIf 3 = .ok (.iload_n 3, 1) := by decide +kernel
theorem dX0_sharesWordIf_4 : decode cX0_sharesWordIf 4 = .ok (.invokevirtual 234, 3) := by decide +kernel
theorem dX0_sharesWordIf_7 : decode cX0_sharesWordIf 7 = .ok (.istore 4, 2) := by decide +kernel
theorem dX0_sharesWordIf_9 : decode cX0_sharesWordIf 9 = .ok (.iconst 0, 1) := by decide +kernel
theorem dX0_sharesWordIf_10 : decode cX0_sharesWordIf 10 = .ok (.istore 5, 2) := by decide +kernel
theorem dX0_sharesWordIf_12 : decode cX0_sharesWordIf 12 = .ok (.iload 5, 2) := by decide +kernel
theorem dX0_sharesWordIf_14 : decode cX0_sharesWordIf 14 = .ok (.bipush 10, 2) := by decide +kernel
theorem dX0_sharesWordIf_16 : decode cX0_sharesWordIf 16 = .ok (.if_icmp .ge 30, 3) := by decide +kernel
theorem dX0_sharesWordIf_19 : decode cX0_sharesWordIf 19 = .ok (.iload 5, 2) := by decide +kernel
theorem dX0_sharesWordIf_21 : decode cX0_sharesWordIf 21 = .ok (.iload_n 1, 1) := by decide +kernel
theorem dX0_sharesWordIf_22 : decode cX0_sharesWordIf 22 = .ok (.if_icmp .eq 18, 3) := by decide +kernel
theorem dX0_sharesWordIf_25 : decode cX0_sharesWordIf 25 = .ok (.aload_n 0, 1) := by decide +kernel
theorem dX0_sharesWordIf_26 : decode cX0_sharesWordIf 26 = .ok (.iload 5, 2) := by decide +kernel
theorem dX0_sharesWordIf_28 : decode cX0_sharesWordIf 28 = .ok (.iload_n 2, 1) := by decide +kernel
theorem dX0_sharesWordIf_29 : decode cX0_sharesWordIf 29 = .ok (.iload_n 3, 1) := by decide +kernel
theorem dX0_sharesWordIf_30 : decode cX0_sharesWordIf 30 = .ok (.invokevirtual 234, 3) := by decide +kernel
theorem dX0_sharesWordIf_33 : decode cX0_sharesWordIf 33 = .ok (.iload 4, 2) := by decide +kernel
theorem dX0_sharesWordIf_35 : decode cX0_sharesWordIf 35 = .ok (.if_icmp .ne 5, 3) := by decide +kernel
theorem dX0_sharesWordIf_38 : decode cX0_sharesWordIf 38 = .ok (.iconst 1, 1) := by decide +kernel
theorem dX0_sharesWordIf_39 : decode cX0_sharesWordIf 39 = .ok (.ireturn, 1) := by decide +kernel
theorem dX0_sharesWordIf_40 : decode cX0_sharesWordIf 40 = .ok (.iinc 5 1, 3) := by decide +kernel
theorem dX0_sharesWordIf_43 : decode cX0_sharesWordIf 43 = .ok (.goto (-31), 3) := by decide +kernel
theorem dX0_sharesWordIf_46 : decode cX0_sharesWordIf 46 = .ok (.iconst 0, 1) := by decide +kernel
theorem dX0_sharesWordIf_47 : decode cX0_sharesWordIf 47 = .ok (.ireturn, 1) := by decide +kernel
theorem dX0_wordIf_0 : decode cX0_wordIf 0 = .ok (.iload_n 1, 1) := by decide +kernel
theorem dX0_wordIf_1 : decode cX0_wordIf 1 = .ok (.iload_n 2, 1) := by decide +kernel
theorem dX0_wordIf_2 : decode cX0_wordIf 2 = .ok (.if_icmp .ne 7, 3) := by decide +kernel
theorem dX0_wordIf_5 : decode cX0_wordIf 5 = .ok (.iload_n 3, 1) := by decide +kernel
theorem dX0_wordIf_6 : decode cX0_wordIf 6 = .ok (.goto 9, 3) := by decide +kernel
theorem dX0_wordIf_9 : decode cX0_wordIf 9 = .ok (.aload_n 0, 1) := by decide +kernel
theorem dX0_wordIf_10 : decode cX0_wordIf 10 = .ok (.getfield 23, 3) := by decide +kernel
theorem dX0_wordIf_13 : decode cX0_wordIf 13 = .ok (.iload_n 1, 1) := by decide +kernel
theorem dX0_wordIf_14 : decode cX0_wordIf 14 = .ok (.iaload, 1) := by decide +kernel
theorem dX0_wordIf_15 : decode cX0_wordIf 15 = .ok (.ireturn, 1) := by decide +kernel
theorem dX0_digested_0 : decode cX0_digested 0 = .ok (.lload_n 0, 1) := by decide +kernel
theorem dX0_digested_1 : decode cX0_digested 1 = .ok (.ldc2_w 237, 3) := by decide +kernel
theorem dX0_digested_4 : decode cX0_digested 4 = .ok (.lmul, 1) := by decide +kernel
theorem dX0_digested_5 : decode cX0_digested 5 = .ok (.lload_n 2, 1) := by decide +kernel
theorem dX0_digested_6 : decode cX0_digested 6 = .ok (.ladd, 1) := by decide +kernel
theorem dX0_digested_7 : decode cX0_digested 7 = .ok (.lreturn, 1) := by decide +kernel
theorem dX0_digestOfLeg_0 : decode cX0_digestOfLeg 0 = .ok (.lload_n 1, 1) := by decide +kernel
theorem dX0_digestOfLeg_1 : decode cX0_digestOfLeg 1 = .ok (.lstore 4, 2) := by decide +kernel
theorem dX0_digestOfLeg_3 : decode cX0_digestOfLeg 3 = .ok (.lload 4, 2) := by decide +kernel
theorem dX0_digestOfLeg_5 : decode cX0_digestOfLeg 5 = .ok (.aload_n 0, 1) := by decide +kernel
theorem dX0_digestOfLeg_6 : decode cX0_digestOfLeg 6 = .ok (.iload_n 3, 1) := by decide +kernel
theorem dX0_digestOfLeg_7 : decode cX0_digestOfLeg 7 = .ok (.invokevirtual 239, 3) := by decide +kernel
theorem dX0_digestOfLeg_10 : decode cX0_digestOfLeg 10 = .ok (.i2l, 1) := by decide +kernel
theorem dX0_digestOfLeg_11 : decode cX0_digestOfLeg 11 = .ok (.invokestatic 171, 3) := by decide +kernel
theorem dX0_digestOfLeg_14 : decode cX0_digestOfLeg 14 = .ok (.lstore 4, 2) := by decide +kernel
theorem dX0_digestOfLeg_16 : decode cX0_digestOfLeg 16 = .ok (.lload 4, 2) := by decide +kernel
theorem dX0_digestOfLeg_18 : decode cX0_digestOfLeg 18 = .ok (.aload_n 0, 1) := by decide +kernel
theorem dX0_digestOfLeg_19 : decode cX0_digestOfLeg 19 = .ok (.iload_n 3, 1) := by decide +kernel
theorem dX0_digestOfLeg_20 : decode cX0_digestOfLeg 20 = .ok (.invokevirtual 242, 3) := by decide +kernel
theorem dX0_digestOfLeg_23 : decode cX0_digestOfLeg 23 = .ok (.i2l, 1) := by decide +kernel
theorem dX0_digestOfLeg_24 : decode cX0_digestOfLeg 24 = .ok (.invokestatic 171, 3) := by decide +kernel
theorem dX0_digestOfLeg_27 : decode cX0_digestOfLeg 27 = .ok (.lstore 4, 2) := by decide +kernel
theorem dX0_digestOfLeg_29 : decode cX0_digestOfLeg 29 = .ok (.lload 4, 2) := by decide +kernel
theorem dX0_digestOfLeg_31 : decode cX0_digestOfLeg 31 = .ok (.aload_n 0, 1) := by decide +kernel
theorem dX0_digestOfLeg_32 : decode cX0_digestOfLeg 32 = .ok (.iload_n 3, 1) := by decide +kernel
theorem dX0_digestOfLeg_33 : decode cX0_digestOfLeg 33 = .ok (.invokevirtual 245, 3) := by decide +kernel
theorem dX0_digestOfLeg_36 : decode cX0_digestOfLeg 36 = .ok (.i2l, 1) := by decide +kernel
theorem dX0_digestOfLeg_37 : decode cX0_digestOfLeg 37 = .ok (.invokestatic 171, 3) := by decide +kernel
theorem dX0_digestOfLeg_40 : decode cX0_digestOfLeg 40 = .ok (.lstore 4, 2) := by decide +kernel
theorem dX0_digestOfLeg_42 : decode cX0_digestOfLeg 42 = .ok (.lload 4, 2) := by decide +kernel
theorem dX0_digestOfLeg_44 : decode cX0_digestOfLeg 44 = .ok (.aload_n 0, 1) := by decide +kernel
theorem dX0_digestOfLeg_45 : decode cX0_digestOfLeg 45 = .ok (.iload_n 3, 1) := by decide +kernel
theorem dX0_digestOfLeg_46 : decode cX0_digestOfLeg 46 = .ok (.invokevirtual 248, 3) := by decide +kernel
theorem dX0_digestOfLeg_49 : decode cX0_digestOfLeg 49 = .ok (.i2l, 1) := by decide +kernel
theorem dX0_digestOfLeg_50 : decode cX0_digestOfLeg 50 = .ok (.invokestatic 171, 3) := by decide +kernel
theorem dX0_digestOfLeg_53 : decode cX0_digestOfLeg 53 = .ok (.lstore 4, 2) := by decide +kernel
theorem dX0_digestOfLeg_55 : decode cX0_digestOfLeg 55 = .ok (.lload 4, 2) := by decide +kernel
theorem dX0_digestOfLeg_57 : decode cX0_digestOfLeg 57 = .ok (.aload_n 0, 1) := by decide +kernel
theorem dX0_digestOfLeg_58 : decode cX0_digestOfLeg 58 = .ok (.iload_n 3, 1) := by decide +kernel
theorem dX0_digestOfLeg_59 : decode cX0_digestOfLeg 59 = .ok (.invokevirtual 251, 3) := by decide +kernel
theorem dX0_digestOfLeg_62 : decode cX0_digestOfLeg 62 = .ok (.i2l, 1) := by decide +kernel
theorem dX0_digestOfLeg_63 : decode cX0_digestOfLeg 63 = .ok (.invokestatic 171, 3) := by decide +kernel
theorem dX0_digestOfLeg_66 : decode cX0_digestOfLeg 66 = .ok (.lstore 4, 2) := by decide +kernel
theorem dX0_digestOfLeg_68 : decode cX0_digestOfLeg 68 = .ok (.lload 4, 2) := by decide +kernel
theorem dX0_digestOfLeg_70 : decode cX0_digestOfLeg 70 = .ok (.aload_n 0, 1) := by decide +kernel
theorem dX0_digestOfLeg_71 : decode cX0_digestOfLeg 71 = .ok (.iload_n 3, 1) := by decide +kernel
theorem dX0_digestOfLeg_72 : decode cX0_digestOfLeg 72 = .ok (.invokevirtual 136, 3) := by decide +kernel
theorem dX0_digestOfLeg_75 : decode cX0_digestOfLeg 75 = .ok (.i2l, 1) := by decide +kernel
theorem dX0_digestOfLeg_76 : decode cX0_digestOfLeg 76 = .ok (.invokestatic 171, 3) := by decide +kernel
theorem dX0_digestOfLeg_79 : decode cX0_digestOfLeg 79 = .ok (.lstore 4, 2) := by decide +kernel
theorem dX0_digestOfLeg_81 : decode cX0_digestOfLeg 81 = .ok (.lload 4, 2) := by decide +kernel
theorem dX0_digestOfLeg_83 : decode cX0_digestOfLeg 83 = .ok (.aload_n 0, 1) := by decide +kernel
theorem dX0_digestOfLeg_84 : decode cX0_digestOfLeg 84 = .ok (.iload_n 3, 1) := by decide +kernel
theorem dX0_digestOfLeg_85 : decode cX0_digestOfLeg 85 = .ok (.invokevirtual 144, 3) := by decide +kernel
theorem dX0_digestOfLeg_88 : decode cX0_digestOfLeg 88 = .ok (.i2l, 1) := by decide +kernel
theorem dX0_digestOfLeg_89 : decode cX0_digestOfLeg 89 = .ok (.invokestatic 171, 3) := by decide +kernel
theorem dX0_digestOfLeg_92 : decode cX0_digestOfLeg 92 = .ok (.lstore 4, 2) := by decide +kernel
theorem dX0_digestOfLeg_94 : decode cX0_digestOfLeg 94 = .ok (.lload 4, 2) := by decide +kernel
theorem dX0_digestOfLeg_96 : decode cX0_digestOfLeg 96 = .ok (.aload_n 0, 1) := by decide +kernel
theorem dX0_digestOfLeg_97 : decode cX0_digestOfLeg 97 = .ok (.iload_n 3, 1) := by decide +kernel
theorem dX0_digestOfLeg_98 : decode cX0_digestOfLeg 98 = .ok (.invokevirtual 254, 3) := by decide +kernel
theorem dX0_digestOfLeg_101 : decode cX0_digestOfLeg 101 = .ok (.ifCond .eq 7, 3) := by decide +kernel
theorem dX0_digestOfLeg_104 : decode cX0_digestOfLeg 104 = .ok (.lconst 1, 1) := by decide +kernel
theorem dX0_digestOfLeg_105 : decode cX0_digestOfLeg 105 = .ok (.goto 4, 3) := by decide +kernel
theorem dX0_digestOfLeg_108 : decode cX0_digestOfLeg 108 = .ok (.lconst 0, 1) := by decide +kernel
theorem dX0_digestOfLeg_109 : decode cX0_digestOfLeg 109 = .ok (.invokestatic 171, 3) := by decide +kernel
theorem dX0_digestOfLeg_112 : decode cX0_digestOfLeg 112 = .ok (.lstore 4, 2) := by decide +kernel
theorem dX0_digestOfLeg_114 : decode cX0_digestOfLeg 114 = .ok (.lload 4, 2) := by decide +kernel
theorem dX0_digestOfLeg_116 : decode cX0_digestOfLeg 116 = .ok (.lreturn, 1) := by decide +kernel
